/-! LongTrainModel.haltOf -/
set_option maxRecDepth 100000 in
set_option maxHeartbeats 4000000 in
theorem bt_LongTrainModel_haltOf_2 {p : Program} {l : Launch} {e : Env} {s : State} {m : MethodId} {below : List Frame} {meth : Method} {c : Code} {A : Nat → Prop} {D : va_G} {k : Nat → ClassId} {a_t : Nat} {d_t : Nat → Nat} {i_t : Nat → Int32} {j_t : Nat → Int64} {r_t_s : Nat → Int32} {n1 : Int32} {Q : Int32 → Prop}  {x1 : Int32} {kx_2 : Prop} {kr_2 : (Int32) → Prop} (F : Fx p m c cX12_haltOf 3 s ([.ref a_t, .int n1] : List Value).toArray RX12 D k) (hr : meth.sig.returnType = (some .int)) (hlk : meth.locks = false) (hA : ∀ q : Nat, s.heap.size ≤ q → A q) (hkx_2 : ∀ (H : Heap) (locs : List Loc) (ls : Array Slot), kx_2 → Bd D A s.heap (wd_LongTrainModel_haltOf k a_t d_t i_t j_t r_t_s) H locs → lv_has ls 3 [] → W p l e { frames := 1, cells := 0, slots := 0, locals := 21 } s m ([.ref a_t, .int n1] : List Value).toArray below meth c H locs 0 0 (Ei below (fun r w => w = (wd_LongTrainModel_haltOf k a_t d_t i_t j_t r_t_s) ∧ Q r) D k A ([.ref a_t, .int n1] : List Value).toArray s 0 0) (F0 m 41 ls [])) (hkr_2 : ∀ (x2 : Int32) (H : Heap) (locs : List Loc) (ls : Array Slot), kr_2 x2 → Bd D A s.heap (wd_LongTrainModel_haltOf k a_t d_t i_t j_t r_t_s) H locs → lv_has ls 3 [(0, .ref a_t), (1, .int x1), (2, .int x2)] → W p l e { frames := 1, cells := 0, slots := 0, locals := 21 } s m ([.ref a_t, .int n1] : List Value).toArray below meth c H locs 0 0 (Ei below (fun r w => w = (wd_LongTrainModel_haltOf k a_t d_t i_t j_t r_t_s) ∧ Q r) D k A ([.ref a_t, .int n1] : List Value).toArray s 0 0) (F0 m 2 ls [])) :
    ∀ (x2 : Int32) (H : Heap) (locs : List Loc) (ls : Array Slot), b_LongTrainModel_haltOf_2 r_t_s x1 Q kx_2 kr_2 x2 → Bd D A s.heap (wd_LongTrainModel_haltOf k a_t d_t i_t j_t r_t_s) H locs → lv_has ls 3 [(0, .ref a_t), (1, .int x1), (2, .int x2)] → W p l e { frames := 1, cells := 0, slots := 0, locals := 21 } s m ([.ref a_t, .int n1] : List Value).toArray below meth c H locs 0 0 (Ei below (fun r w => w = (wd_LongTrainModel_haltOf k a_t d_t i_t j_t r_t_s) ∧ Q r) D k A ([.ref a_t, .int n1] : List Value).toArray s 0 0) (F0 m 2 ls []) := by
  have hx := F.x
  have hb := F.b
  intro x2 H locs ls hf hB hl
  unfold b_LongTrainModel_haltOf_2 at hf
  refine lv_iload_n hx hb dX12_haltOf_2 rfl (lv_at hl 2 rfl) ?_
  refine lv_aload_n hx hb dX12_haltOf_3 rfl (lv_at hl 0 rfl) ?_
  refine g_get (w := .ref (d_t 6)) F hB 0 rfl fl_RX12_33 rfl dX12_haltOf_4 ?_
  refine lv_iconst (v := 1) hx hb dX12_haltOf_7 (by decide) ?_
  refine g_iald F hB 1 rfl (vp_in_iff.mpr (by decide +kernel)) dX12_haltOf_8 ?_
  refine W.eq (g2 := F0 m 9 ls [.int (r_t_s 1), .int x2]) rfl ?_
  refine lv_icmp_ge (tgt := 41) hx hb dX12_haltOf_9 (by decide) (fun c_7 => ?_) (fun c_7 => ?_)
  · replace hf := hf.1 c_7
    exact hkx_2  _ _ _ hf hB (lv_sub hl [] rfl)
  · replace hf := hf.2 c_7
    refine lv_aload_n hx hb dX12_haltOf_12 rfl (lv_at hl 0 rfl) ?_
    refine lv_iload_n hx hb dX12_haltOf_13 rfl (lv_at hl 2 rfl) ?_
    refine k_vi (wr := []) (rest := []) F hA hB (c_LongTrainModel_haltAt l D k a_t d_t i_t j_t r_t_s x2 _  hf) ml_RX12_261 mv_yX12_haltAt [0, 1] [] rfl rfl (by decide) (by decide) (by decide) 0 rfl rfl rfl hl.1 rfl (Nat.le_of_ble_eq_true rfl) ⟨Nat.le_of_ble_eq_true rfl, Nat.le_of_ble_eq_true rfl⟩ ⟨Nat.le_of_ble_eq_true rfl, Nat.le_of_ble_eq_true rfl⟩ dX12_haltOf_14 (fun z_2 w1 H locs hq hB => ?_)
    obtain ⟨rfl, hf⟩ := hq
    replace hB : Bd D A s.heap (wd_LongTrainModel_haltOf k a_t d_t i_t j_t r_t_s) H locs := hB.sub [0, 1] (by decide) rfl
    refine lv_iload_n hx hb dX12_haltOf_17 rfl (lv_at hl 1 rfl) ?_
    refine lv_icmp_ne (tgt := 35) hx hb dX12_haltOf_18 (by decide) (fun c_6 => ?_) (fun c_6 => ?_)
    · replace hf := hf.1 c_6
      refine lv_iinc (v := (x2 + 1)) (lv' := [(2, .int (x2 + 1)), (0, .ref a_t), (1, .int x1)]) (k := 2) hx hb dX12_haltOf_35 hl rfl rfl (by decide) rfl (fun ls hl => ?_)
      refine lv_goto (tgt := 2) hx hb dX12_haltOf_38 (by decide) ?_
      exact hkr_2 _ _ _ _ hf hB (lv_sub hl [1, 2, 0] rfl)
    · replace hf := hf.2 c_6
      refine lv_iload_n hx hb dX12_haltOf_21 rfl (lv_at hl 1 rfl) ?_
      refine lv_if_le (tgt := 35) hx hb dX12_haltOf_22 (by decide) (fun c_5 => ?_) (fun c_5 => ?_)
      · replace hf := hf.1 c_5
        refine lv_iinc (v := (x2 + 1)) (lv' := [(2, .int (x2 + 1)), (0, .ref a_t), (1, .int x1)]) (k := 2) hx hb dX12_haltOf_35 hl rfl rfl (by decide) rfl (fun ls hl => ?_)
        refine lv_goto (tgt := 2) hx hb dX12_haltOf_38 (by decide) ?_
        exact hkr_2 _ _ _ _ hf hB (lv_sub hl [1, 2, 0] rfl)
      · replace hf := hf.2 c_5
        refine lv_aload_n hx hb dX12_haltOf_25 rfl (lv_at hl 0 rfl) ?_
        refine lv_iload_n hx hb dX12_haltOf_26 rfl (lv_at hl 2 rfl) ?_
        refine k_vi (wr := []) (rest := []) F hA hB (c_LongTrainModel_addsOf l D k a_t d_t i_t j_t r_t_s x2 _  hf) ml_RX12_264 mv_yX12_addsOf [0, 1] [] rfl rfl (by decide) (by decide) (by decide) 0 rfl rfl rfl hl.1 rfl (Nat.le_of_ble_eq_true rfl) ⟨Nat.le_of_ble_eq_true rfl, Nat.le_of_ble_eq_true rfl⟩ ⟨Nat.le_of_ble_eq_true rfl, Nat.le_of_ble_eq_true rfl⟩ dX12_haltOf_27 (fun z_3 w1 H locs hq hB => ?_)
        obtain ⟨rfl, hf⟩ := hq
        replace hB : Bd D A s.heap (wd_LongTrainModel_haltOf k a_t d_t i_t j_t r_t_s) H locs := hB.sub [0, 1] (by decide) rfl
        refine lv_if_lt (tgt := 35) hx hb dX12_haltOf_30 (by decide) (fun c_4 => ?_) (fun c_4 => ?_)
        · replace hf := hf.1 c_4
          refine lv_iinc (v := (x2 + 1)) (lv' := [(2, .int (x2 + 1)), (0, .ref a_t), (1, .int x1)]) (k := 2) hx hb dX12_haltOf_35 hl rfl rfl (by decide) rfl (fun ls hl => ?_)
          refine lv_goto (tgt := 2) hx hb dX12_haltOf_38 (by decide) ?_
          exact hkr_2 _ _ _ _ hf hB (lv_sub hl [1, 2, 0] rfl)
        · replace hf := hf.2 c_4
          refine lv_iload_n hx hb dX12_haltOf_33 rfl (lv_at hl 2 rfl) ?_
          exact r_i F hr hlk hB ⟨rfl, hf⟩ dX12_haltOf_34

set_option maxRecDepth 100000 in
set_option maxHeartbeats 4000000 in
theorem lt_LongTrainModel_haltOf_2 {p : Program} {l : Launch} {e : Env} {s : State} {m : MethodId} {below : List Frame} {meth : Method} {c : Code} {A : Nat → Prop} {D : va_G} {k : Nat → ClassId} {a_t : Nat} {d_t : Nat → Nat} {i_t : Nat → Int32} {j_t : Nat → Int64} {r_t_s : Nat → Int32} {n1 : Int32} {Q : Int32 → Prop}  {x1 : Int32} {kx_2 : Prop} (F : Fx p m c cX12_haltOf 3 s ([.ref a_t, .int n1] : List Value).toArray RX12 D k) (hr : meth.sig.returnType = (some .int)) (hlk : meth.locks = false) (hA : ∀ q : Nat, s.heap.size ≤ q → A q) (hkx_2 : ∀ (H : Heap) (locs : List Loc) (ls : Array Slot), kx_2 → Bd D A s.heap (wd_LongTrainModel_haltOf k a_t d_t i_t j_t r_t_s) H locs → lv_has ls 3 [] → W p l e { frames := 1, cells := 0, slots := 0, locals := 21 } s m ([.ref a_t, .int n1] : List Value).toArray below meth c H locs 0 0 (Ei below (fun r w => w = (wd_LongTrainModel_haltOf k a_t d_t i_t j_t r_t_s) ∧ Q r) D k A ([.ref a_t, .int n1] : List Value).toArray s 0 0) (F0 m 41 ls [])) :
    ∀ n : Nat, ∀ (x2 : Int32) (H : Heap) (locs : List Loc) (ls : Array Slot), lp_LongTrainModel_haltOf_2 r_t_s x1 Q kx_2 n x2 → Bd D A s.heap (wd_LongTrainModel_haltOf k a_t d_t i_t j_t r_t_s) H locs → lv_has ls 3 [(0, .ref a_t), (1, .int x1), (2, .int x2)] → W p l e { frames := 1, cells := 0, slots := 0, locals := 21 } s m ([.ref a_t, .int n1] : List Value).toArray below meth c H locs 0 0 (Ei below (fun r w => w = (wd_LongTrainModel_haltOf k a_t d_t i_t j_t r_t_s) ∧ Q r) D k A ([.ref a_t, .int n1] : List Value).toArray s 0 0) (F0 m 2 ls []) := by
  intro n
  induction n with
  | zero => intro x2 H locs ls hf; exact absurd hf (fun h => h)
  | succ n ih => exact bt_LongTrainModel_haltOf_2 F hr hlk hA hkx_2 ih

set_option maxRecDepth 100000 in
set_option maxHeartbeats 4000000 in
theorem c_LongTrainModel_haltOf (l : Launch) (D : va_G) (k : Nat → ClassId) (a_t : Nat) (d_t : Nat → Nat) (i_t : Nat → Int32) (j_t : Nat → Int64) (r_t_s : Nat → Int32) (n1 : Int32) (Q : Int32 → Prop)  (hf : w_LongTrainModel_haltOf r_t_s n1 Q) : CtI l yX12_haltOf cX12_haltOf 3 (some .int) 1 21 0 0 D k [.ref a_t, .int n1] (wd_LongTrainModel_haltOf k a_t d_t i_t j_t r_t_s) (fun r w => w = (wd_LongTrainModel_haltOf k a_t d_t i_t j_t r_t_s) ∧ Q r) := by
  refine CtI.of (by decide) (Nat.le_of_ble_eq_true rfl) ?_
  intro p e s m below meth c A F hr hlk hnm hA hB ls hl
  have hx := F.x
  have hb := F.b
  unfold w_LongTrainModel_haltOf at hf
  replace hl : lv_has ls 3 [(0, .ref a_t), (1, .int n1)] := hl
  refine lv_iconst (v := 0) hx hb dX12_haltOf_0 (by decide) ?_
  refine lv_istore_n (lv' := [(2, .int (0 : Int32)), (0, .ref a_t), (1, .int n1)]) hx hb dX12_haltOf_1 rfl hl (by decide) rfl (fun ls hl => ?_)
  obtain ⟨n_8, hf⟩ := hf
  refine lt_LongTrainModel_haltOf_2 F hr hlk hA (fun  H locs ls hf hB hl => ?_) n_8 _ _ _ _ hf hB (lv_sub hl [1, 2, 0] rfl)
  refine lv_iconst (v := -1) hx hb dX12_haltOf_41 (by decide) ?_
  exact r_i F hr hlk hB ⟨rfl, hf⟩ dX12_haltOf_42

/-! LongTrainModel.placeBy -/
set_option maxRecDepth 100000 in
set_option maxHeartbeats 4000000 in
theorem bt_LongTrainModel_placeBy_27 {p : Program} {l : Launch} {e : Env} {s : State} {m : MethodId} {below : List Frame} {meth : Method} {c : Code} {A : Nat → Prop} {D : va_G} {k : Nat → ClassId} {a_t : Nat} {d_t : Nat → Nat} {i_t : Nat → Int32} {j_t : Nat → Int64} {r_t_places : Nat → Int32} {r_t_strengths : Nat → Int32} {r_t_s : Nat → Int32} {n1 : Int32} {n2 : Int32} {n3 : Int32} {Q : Int32 → Prop}  {x1 : Int32} {x3 : Int32} {kx_27 : Prop} {kr_27 : (Int32) → Prop} (F : Fx p m c cX12_placeBy 5 s ([.ref a_t, .int n1, .int n2, .int n3] : List Value).toArray RX12 D k) (hr : meth.sig.returnType = (some .int)) (hlk : meth.locks = false) (hA : ∀ q : Nat, s.heap.size ≤ q → A q) (hkx_27 : ∀ (H : Heap) (locs : List Loc) (ls : Array Slot), kx_27 → Bd D A s.heap (wd_LongTrainModel_placeBy k a_t d_t i_t j_t r_t_places r_t_strengths r_t_s) H locs → lv_has ls 5 [(0, .ref a_t)] → W p l e { frames := 1, cells := 0, slots := 0, locals := 21 } s m ([.ref a_t, .int n1, .int n2, .int n3] : List Value).toArray below meth c H locs 0 0 (Ei below (fun r w => w = (wd_LongTrainModel_placeBy k a_t d_t i_t j_t r_t_places r_t_strengths r_t_s) ∧ Q r) D k A ([.ref a_t, .int n1, .int n2, .int n3] : List Value).toArray s 0 0) (F0 m 65 ls [])) (hkr_27 : ∀ (x4 : Int32) (H : Heap) (locs : List Loc) (ls : Array Slot), kr_27 x4 → Bd D A s.heap (wd_LongTrainModel_placeBy k a_t d_t i_t j_t r_t_places r_t_strengths r_t_s) H locs → lv_has ls 5 [(0, .ref a_t), (1, .int x1), (3, .int x3), (4, .int x4)] → W p l e { frames := 1, cells := 0, slots := 0, locals := 21 } s m ([.ref a_t, .int n1, .int n2, .int n3] : List Value).toArray below meth c H locs 0 0 (Ei below (fun r w => w = (wd_LongTrainModel_placeBy k a_t d_t i_t j_t r_t_places r_t_strengths r_t_s) ∧ Q r) D k A ([.ref a_t, .int n1, .int n2, .int n3] : List Value).toArray s 0 0) (F0 m 27 ls [])) :
    ∀ (x4 : Int32) (H : Heap) (locs : List Loc) (ls : Array Slot), b_LongTrainModel_placeBy_27 i_t r_t_strengths r_t_s x1 x3 Q kx_27 kr_27 x4 → Bd D A s.heap (wd_LongTrainModel_placeBy k a_t d_t i_t j_t r_t_places r_t_strengths r_t_s) H locs → lv_has ls 5 [(0, .ref a_t), (1, .int x1), (3, .int x3), (4, .int x4)] → W p l e { frames := 1, cells := 0, slots := 0, locals := 21 } s m ([.ref a_t, .int n1, .int n2, .int n3] : List Value).toArray below meth c H locs 0 0 (Ei below (fun r w => w = (wd_LongTrainModel_placeBy k a_t d_t i_t j_t r_t_places r_t_strengths r_t_s) ∧ Q r) D k A ([.ref a_t, .int n1, .int n2, .int n3] : List Value).toArray s 0 0) (F0 m 27 ls []) := by
  have hx := F.x
  have hb := F.b
  intro x4 H locs ls hf hB hl
  unfold b_LongTrainModel_placeBy_27 at hf
  refine lv_iload hx hb dX12_placeBy_27 (lv_at hl 3 rfl) ?_
  refine lv_aload_n hx hb dX12_placeBy_29 rfl (lv_at hl 0 rfl) ?_
  refine g_get (w := .int (i_t 27)) F hB 0 rfl fl_RX12_270 rfl dX12_placeBy_30 ?_
  refine lv_icmp_ge (tgt := 65) hx hb dX12_placeBy_33 (by decide) (fun c_5 => ?_) (fun c_5 => ?_)
  · replace hf := hf.1 c_5
    exact hkx_27  _ _ _ hf hB (lv_sub hl [0] rfl)
  · replace hf := hf.2 c_5
    refine lv_iload_n hx hb dX12_placeBy_36 rfl (lv_at hl 1 rfl) ?_
    refine lv_iconst (v := 2) hx hb dX12_placeBy_37 (by decide) ?_
    refine lv_icmp_ne (tgt := 65) hx hb dX12_placeBy_38 (by decide) (fun c_4 => ?_) (fun c_4 => ?_)
    · replace hf := hf.1 c_4
      exact hkx_27  _ _ _ hf hB (lv_sub hl [0] rfl)
    · replace hf := hf.2 c_4
      refine lv_aload_n hx hb dX12_placeBy_41 rfl (lv_at hl 0 rfl) ?_
      refine g_get (w := .ref (d_t 25)) F hB 0 rfl fl_RX12_59 rfl dX12_placeBy_42 ?_
      refine lv_iload hx hb dX12_placeBy_45 (lv_at hl 3 rfl) ?_
      obtain ⟨h_1, hf⟩ := hf
      refine g_iald F hB 2 rfl h_1 dX12_placeBy_47 ?_
      refine lv_aload_n hx hb dX12_placeBy_48 rfl (lv_at hl 0 rfl) ?_
      refine lv_iload_n hx hb dX12_placeBy_49 rfl (lv_at hl 2 rfl) ?_
      refine k_vi (wr := [((d_t 30), ai k 4 r_t_places), ((d_t 25), ai k 20 r_t_strengths)]) (rest := [.int (r_t_strengths (x4).toNatClampNeg)]) F hA hB (c_LongTrainModel_strengthOf l D k a_t d_t i_t j_t r_t_s x3 _  hf) ml_RX12_312 mv_yX12_strengthOf [0, 3] [1, 2] rfl rfl (by decide) (by decide) (by decide) 0 rfl rfl rfl hl.1 rfl (Nat.le_of_ble_eq_true rfl) ⟨Nat.le_of_ble_eq_true rfl, Nat.le_of_ble_eq_true rfl⟩ ⟨Nat.le_of_ble_eq_true rfl, Nat.le_of_ble_eq_true rfl⟩ dX12_placeBy_50 (fun z_2 w1 H locs hq hB => ?_)
      obtain ⟨rfl, hf⟩ := hq
      replace hB : Bd D A s.heap (wd_LongTrainModel_placeBy k a_t d_t i_t j_t r_t_places r_t_strengths r_t_s) H locs := hB.sub [2, 0, 1, 3] (by decide) rfl
      refine lv_icmp_ge (tgt := 59) hx hb dX12_placeBy_53 (by decide) (fun c_3 => ?_) (fun c_3 => ?_)
      · replace hf := hf.1 c_3
        refine lv_iinc (v := (x4 + 1)) (lv' := [(4, .int (x4 + 1)), (0, .ref a_t), (1, .int x1), (3, .int x3)]) (k := 3) hx hb dX12_placeBy_59 hl rfl rfl (by decide) rfl (fun ls hl => ?_)
        refine lv_goto (tgt := 27) hx hb dX12_placeBy_62 (by decide) ?_
        exact hkr_27 _ _ _ _ hf hB (lv_sub hl [1, 2, 3, 0] rfl)
      · replace hf := hf.2 c_3
        refine lv_iload hx hb dX12_placeBy_56 (lv_at hl 3 rfl) ?_
        exact r_i F hr hlk hB ⟨rfl, hf⟩ dX12_placeBy_58

set_option maxRecDepth 100000 in
set_option maxHeartbeats 4000000 in
theorem lt_LongTrainModel_placeBy_27 {p : Program} {l : Launch} {e : Env} {s : State} {m : MethodId} {below : List Frame} {meth : Method} {c : Code} {A : Nat → Prop} {D : va_G} {k : Nat → ClassId} {a_t : Nat} {d_t : Nat → Nat} {i_t : Nat → Int32} {j_t : Nat → Int64} {r_t_places : Nat → Int32} {r_t_strengths : Nat → Int32} {r_t_s : Nat → Int32} {n1 : Int32} {n2 : Int32} {n3 : Int32} {Q : Int32 → Prop}  {x1 : Int32} {x3 : Int32} {kx_27 : Prop} (F : Fx p m c cX12_placeBy 5 s ([.ref a_t, .int n1, .int n2, .int n3] : List Value).toArray RX12 D k) (hr : meth.sig.returnType = (some .int)) (hlk : meth.locks = false) (hA : ∀ q : Nat, s.heap.size ≤ q → A q) (hkx_27 : ∀ (H : Heap) (locs : List Loc) (ls : Array Slot), kx_27 → Bd D A s.heap (wd_LongTrainModel_placeBy k a_t d_t i_t j_t r_t_places r_t_strengths r_t_s) H locs → lv_has ls 5 [(0, .ref a_t)] → W p l e { frames := 1, cells := 0, slots := 0, locals := 21 } s m ([.ref a_t, .int n1, .int n2, .int n3] : List Value).toArray below meth c H locs 0 0 (Ei below (fun r w => w = (wd_LongTrainModel_placeBy k a_t d_t i_t j_t r_t_places r_t_strengths r_t_s) ∧ Q r) D k A ([.ref a_t, .int n1, .int n2, .int n3] : List Value).toArray s 0 0) (F0 m 65 ls [])) :
    ∀ n : Nat, ∀ (x4 : Int32) (H : Heap) (locs : List Loc) (ls : Array Slot), lp_LongTrainModel_placeBy_27 i_t r_t_strengths r_t_s x1 x3 Q kx_27 n x4 → Bd D A s.heap (wd_LongTrainModel_placeBy k a_t d_t i_t j_t r_t_places r_t_strengths r_t_s) H locs → lv_has ls 5 [(0, .ref a_t), (1, .int x1), (3, .int x3), (4, .int x4)] → W p l e { frames := 1, cells := 0, slots := 0, locals := 21 } s m ([.ref a_t, .int n1, .int n2, .int n3] : List Value).toArray below meth c H locs 0 0 (Ei below (fun r w => w = (wd_LongTrainModel_placeBy k a_t d_t i_t j_t r_t_places r_t_strengths r_t_s) ∧ Q r) D k A ([.ref a_t, .int n1, .int n2, .int n3] : List Value).toArray s 0 0) (F0 m 27 ls []) := by
  intro n
  induction n with
  | zero => intro x4 H locs ls hf; exact absurd hf (fun h => h)
  | succ n ih => exact bt_LongTrainModel_placeBy_27 F hr hlk hA hkx_27 ih

set_option maxRecDepth 100000 in
set_option maxHeartbeats 4000000 in
theorem jt_LongTrainModel_placeBy_24 {p : Program} {l : Launch} {e : Env} {s : State} {m : MethodId} {below : List Frame} {meth : Method} {c : Code} {A : Nat → Prop} {D : va_G} {k : Nat → ClassId} {a_t : Nat} {d_t : Nat → Nat} {i_t : Nat → Int32} {j_t : Nat → Int64} {r_t_places : Nat → Int32} {r_t_strengths : Nat → Int32} {r_t_s : Nat → Int32} {n1 : Int32} {n2 : Int32} {n3 : Int32} {Q : Int32 → Prop}  (F : Fx p m c cX12_placeBy 5 s ([.ref a_t, .int n1, .int n2, .int n3] : List Value).toArray RX12 D k) (hr : meth.sig.returnType = (some .int)) (hlk : meth.locks = false) (hA : ∀ q : Nat, s.heap.size ≤ q → A q) :
    ∀ (x1 : Int32) (x3 : Int32) (H : Heap) (locs : List Loc) (ls : Array Slot), j_LongTrainModel_placeBy_24 i_t r_t_strengths r_t_s x1 x3 Q → Bd D A s.heap (wd_LongTrainModel_placeBy k a_t d_t i_t j_t r_t_places r_t_strengths r_t_s) H locs → lv_has ls 5 [(0, .ref a_t), (1, .int x1), (3, .int x3)] → W p l e { frames := 1, cells := 0, slots := 0, locals := 21 } s m ([.ref a_t, .int n1, .int n2, .int n3] : List Value).toArray below meth c H locs 0 0 (Ei below (fun r w => w = (wd_LongTrainModel_placeBy k a_t d_t i_t j_t r_t_places r_t_strengths r_t_s) ∧ Q r) D k A ([.ref a_t, .int n1, .int n2, .int n3] : List Value).toArray s 0 0) (F0 m 24 ls []) := by
  have hx := F.x
  have hb := F.b
  intro x1 x3 H locs ls hf hB hl
  unfold j_LongTrainModel_placeBy_24 at hf
  refine lv_iconst (v := 0) hx hb dX12_placeBy_24 (by decide) ?_
  refine lv_istore (lv' := [(4, .int (0 : Int32)), (0, .ref a_t), (1, .int x1), (3, .int x3)]) hx hb dX12_placeBy_25 hl (by decide) rfl (fun ls hl => ?_)
  obtain ⟨n_6, hf⟩ := hf
  refine lt_LongTrainModel_placeBy_27 F hr hlk hA (fun  H locs ls hf hB hl => ?_) n_6 _ _ _ _ hf hB (lv_sub hl [1, 2, 3, 0] rfl)
  refine lv_aload_n hx hb dX12_placeBy_65 rfl (lv_at hl 0 rfl) ?_
  refine g_get (w := .int (i_t 27)) F hB 0 rfl fl_RX12_270 rfl dX12_placeBy_66 ?_
  exact r_i F hr hlk hB ⟨rfl, hf⟩ dX12_placeBy_69

set_option maxRecDepth 100000 in
set_option maxHeartbeats 4000000 in
theorem c_LongTrainModel_placeBy (l : Launch) (D : va_G) (k : Nat → ClassId) (a_t : Nat) (d_t : Nat → Nat) (i_t : Nat → Int32) (j_t : Nat → Int64) (r_t_places : Nat → Int32) (r_t_strengths : Nat → Int32) (r_t_s : Nat → Int32) (n1 : Int32) (n2 : Int32) (n3 : Int32) (Q : Int32 → Prop)  (hf : w_LongTrainModel_placeBy i_t r_t_places r_t_strengths r_t_s n1 n2 n3 Q) : CtI l yX12_placeBy cX12_placeBy 5 (some .int) 1 21 0 0 D k [.ref a_t, .int n1, .int n2, .int n3] (wd_LongTrainModel_placeBy k a_t d_t i_t j_t r_t_places r_t_strengths r_t_s) (fun r w => w = (wd_LongTrainModel_placeBy k a_t d_t i_t j_t r_t_places r_t_strengths r_t_s) ∧ Q r) := by
  refine CtI.of (by decide) (Nat.le_of_ble_eq_true rfl) ?_
  intro p e s m below meth c A F hr hlk hnm hA hB ls hl
  have hx := F.x
  have hb := F.b
  unfold w_LongTrainModel_placeBy at hf
  replace hl : lv_has ls 5 [(0, .ref a_t), (1, .int n1), (2, .int n2), (3, .int n3)] := hl
  refine lv_iload_n hx hb dX12_placeBy_0 rfl (lv_at hl 1 rfl) ?_
  refine lv_iconst (v := 1) hx hb dX12_placeBy_1 (by decide) ?_
  refine lv_icmp_ne (tgt := 7) hx hb dX12_placeBy_2 (by decide) (fun c_10 => ?_) (fun c_10 => ?_)
  · replace hf := hf.1 c_10
    refine lv_iload_n hx hb dX12_placeBy_7 rfl (lv_at hl 1 rfl) ?_
    refine lv_iconst (v := 3) hx hb dX12_placeBy_8 (by decide) ?_
    refine lv_icmp_ne (tgt := 24) hx hb dX12_placeBy_9 (by decide) (fun c_9 => ?_) (fun c_9 => ?_)
    · replace hf := hf.1 c_9
      exact jt_LongTrainModel_placeBy_24 F hr hlk hA _ _ _ _ _ hf hB (lv_sub hl [0, 1, 3] rfl)
    · replace hf := hf.2 c_9
      refine lv_iload_n hx hb dX12_placeBy_12 rfl (lv_at hl 2 rfl) ?_
      refine lv_iconst (v := 4) hx hb dX12_placeBy_13 (by decide) ?_
      refine lv_icmp_ge (tgt := 24) hx hb dX12_placeBy_14 (by decide) (fun c_8 => ?_) (fun c_8 => ?_)
      · replace hf := hf.1 c_8
        exact jt_LongTrainModel_placeBy_24 F hr hlk hA _ _ _ _ _ hf hB (lv_sub hl [0, 1, 3] rfl)
      · replace hf := hf.2 c_8
        refine lv_aload_n hx hb dX12_placeBy_17 rfl (lv_at hl 0 rfl) ?_
        refine g_get (w := .ref (d_t 30)) F hB 0 rfl fl_RX12_68 rfl dX12_placeBy_18 ?_
        refine lv_iload_n hx hb dX12_placeBy_21 rfl (lv_at hl 2 rfl) ?_
        obtain ⟨h_7, hf⟩ := hf
        refine g_iald F hB 1 rfl h_7 dX12_placeBy_22 ?_
        exact r_i F hr hlk hB ⟨rfl, hf⟩ dX12_placeBy_23
  · replace hf := hf.2 c_10
    refine lv_iconst (v := 0) hx hb dX12_placeBy_5 (by decide) ?_
    exact r_i F hr hlk hB ⟨rfl, hf⟩ dX12_placeBy_6

/-! LongTrainModel.livesBy -/
set_option maxRecDepth 100000 in
set_option maxHeartbeats 4000000 in
theorem bt_LongTrainModel_livesBy_13 {p : Program} {l : Launch} {e : Env} {s : State} {m : MethodId} {below : List Frame} {meth : Method} {c : Code} {A : Nat → Prop} {D : va_G} {k : Nat → ClassId} {a_t : Nat} {d_t : Nat → Nat} {j_t : Nat → Int64} {r_t_s : Nat → Int32} {r_t_places : Nat → Int32} {n1 : Int32} {Q : Int32 → (Nat → Int32) → (Nat → Int32) → (Nat → Int32) → (Nat → Int32) → (Nat → Int32) → (Nat → Int32) → Prop}  {x1 : Int32} {kx_13 : (Int32) → (Nat → Int32) → (Nat → Int32) → (Nat → Int32) → (Nat → Int32) → (Nat → Int32) → (Nat → Int32) → Prop} {kr_13 : (Int32) → (Int32) → (Nat → Int32) → (Nat → Int32) → (Nat → Int32) → (Nat → Int32) → (Nat → Int32) → (Nat → Int32) → Prop} (F : Fx p m c cX12_livesBy 5 s ([.ref a_t, .int n1] : List Value).toArray RX12 D k) (hr : meth.sig.returnType = (some .int)) (hlk : meth.locks = false) (hA : ∀ q : Nat, s.heap.size ≤ q → A q) (hkx_13 : ∀ (x2 : Int32) (i_t : Nat → Int32) (r_t_wagons : Nat → Int32) (r_t_strengths : Nat → Int32) (r_t_worn : Nat → Int32) (r_t_foremost : Nat → Int32) (r_t_bears : Nat → Int32) (H : Heap) (locs : List Loc) (ls : Array Slot), kx_13 x2 i_t r_t_wagons r_t_strengths r_t_worn r_t_foremost r_t_bears → Bd D A s.heap (wd_LongTrainModel_livesBy k a_t d_t i_t j_t r_t_s r_t_wagons r_t_strengths r_t_worn r_t_foremost r_t_bears r_t_places) H locs → lv_has ls 5 [(2, .int x2)] → W p l e { frames := 3, cells := 0, slots := 0, locals := 67 } s m ([.ref a_t, .int n1] : List Value).toArray below meth c H locs 0 0 (Ei below (fun r w => ∃ (i_t : Nat → Int32), ∃ (r_t_wagons : Nat → Int32), ∃ (r_t_strengths : Nat → Int32), ∃ (r_t_worn : Nat → Int32), ∃ (r_t_foremost : Nat → Int32), ∃ (r_t_bears : Nat → Int32), w = (wd_LongTrainModel_livesBy k a_t d_t i_t j_t r_t_s r_t_wagons r_t_strengths r_t_worn r_t_foremost r_t_bears r_t_places) ∧ Q r i_t r_t_wagons r_t_strengths r_t_worn r_t_foremost r_t_bears) D k A ([.ref a_t, .int n1] : List Value).toArray s 0 0) (F0 m 111 ls [])) (hkr_13 : ∀ (x2 : Int32) (x3 : Int32) (i_t : Nat → Int32) (r_t_wagons : Nat → Int32) (r_t_strengths : Nat → Int32) (r_t_worn : Nat → Int32) (r_t_foremost : Nat → Int32) (r_t_bears : Nat → Int32) (H : Heap) (locs : List Loc) (ls : Array Slot), kr_13 x2 x3 i_t r_t_wagons r_t_strengths r_t_worn r_t_foremost r_t_bears → Bd D A s.heap (wd_LongTrainModel_livesBy k a_t d_t i_t j_t r_t_s r_t_wagons r_t_strengths r_t_worn r_t_foremost r_t_bears r_t_places) H locs → lv_has ls 5 [(0, .ref a_t), (1, .int x1), (2, .int x2), (3, .int x3)] → W p l e { frames := 3, cells := 0, slots := 0, locals := 67 } s m ([.ref a_t, .int n1] : List Value).toArray below meth c H locs 0 0 (Ei below (fun r w => ∃ (i_t : Nat → Int32), ∃ (r_t_wagons : Nat → Int32), ∃ (r_t_strengths : Nat → Int32), ∃ (r_t_worn : Nat → Int32), ∃ (r_t_foremost : Nat → Int32), ∃ (r_t_bears : Nat → Int32), w = (wd_LongTrainModel_livesBy k a_t d_t i_t j_t r_t_s r_t_wagons r_t_strengths r_t_worn r_t_foremost r_t_bears r_t_places) ∧ Q r i_t r_t_wagons r_t_strengths r_t_worn r_t_foremost r_t_bears) D k A ([.ref a_t, .int n1] : List Value).toArray s 0 0) (F0 m 13 ls [])) :
    ∀ (x2 : Int32) (x3 : Int32) (i_t : Nat → Int32) (r_t_wagons : Nat → Int32) (r_t_strengths : Nat → Int32) (r_t_worn : Nat → Int32) (r_t_foremost : Nat → Int32) (r_t_bears : Nat → Int32) (H : Heap) (locs : List Loc) (ls : Array Slot), b_LongTrainModel_livesBy_13 r_t_s r_t_places x1 Q kx_13 kr_13 x2 x3 i_t r_t_wagons r_t_strengths r_t_worn r_t_foremost r_t_bears → Bd D A s.heap (wd_LongTrainModel_livesBy k a_t d_t i_t j_t r_t_s r_t_wagons r_t_strengths r_t_worn r_t_foremost r_t_bears r_t_places) H locs → lv_has ls 5 [(0, .ref a_t), (1, .int x1), (2, .int x2), (3, .int x3)] → W p l e { frames := 3, cells := 0, slots := 0, locals := 67 } s m ([.ref a_t, .int n1] : List Value).toArray below meth c H locs 0 0 (Ei below (fun r w => ∃ (i_t : Nat → Int32), ∃ (r_t_wagons : Nat → Int32), ∃ (r_t_strengths : Nat → Int32), ∃ (r_t_worn : Nat → Int32), ∃ (r_t_foremost : Nat → Int32), ∃ (r_t_bears : Nat → Int32), w = (wd_LongTrainModel_livesBy k a_t d_t i_t j_t r_t_s r_t_wagons r_t_strengths r_t_worn r_t_foremost r_t_bears r_t_places) ∧ Q r i_t r_t_wagons r_t_strengths r_t_worn r_t_foremost r_t_bears) D k A ([.ref a_t, .int n1] : List Value).toArray s 0 0) (F0 m 13 ls []) := by
  have hx := F.x
  have hb := F.b
  intro x2 x3 i_t r_t_wagons r_t_strengths r_t_worn r_t_foremost r_t_bears H locs ls hf hB hl
  unfold b_LongTrainModel_livesBy_13 at hf
  refine lv_iload_n hx hb dX12_livesBy_13 rfl (lv_at hl 3 rfl) ?_
  refine lv_aload_n hx hb dX12_livesBy_14 rfl (lv_at hl 0 rfl) ?_
  refine g_get (w := .ref (d_t 6)) F hB 0 rfl fl_RX12_33 rfl dX12_livesBy_15 ?_
  refine lv_iconst (v := 0) hx hb dX12_livesBy_18 (by decide) ?_
  refine g_iald F hB 1 rfl (vp_in_iff.mpr (by decide +kernel)) dX12_livesBy_19 ?_
  refine W.eq (g2 := F0 m 20 ls [.int (r_t_s 0), .int x3]) rfl ?_
  refine lv_icmp_ge (tgt := 111) hx hb dX12_livesBy_20 (by decide) (fun c_25 => ?_) (fun c_25 => ?_)
  · replace hf := hf.1 c_25
    exact hkx_13 _ _ _ _ _ _ _ _ _ _ hf hB (lv_sub hl [2] rfl)
  · replace hf := hf.2 c_25
    refine lv_aload_n hx hb dX12_livesBy_23 rfl (lv_at hl 0 rfl) ?_
    refine lv_iload_n hx hb dX12_livesBy_24 rfl (lv_at hl 3 rfl) ?_
    refine k_vi (wr := [((d_t 30), ai k 4 r_t_places)]) (rest := []) F hA hB (c_LongTrainModel_parts l D k a_t d_t i_t j_t r_t_foremost r_t_wagons r_t_s r_t_bears r_t_strengths r_t_worn x3 _  hf) ml_RX12_329 mv_yX12_parts [0, 5, 2, 1, 6, 3, 4] [7] rfl rfl (by decide) (by decide) (by decide) 0 rfl rfl rfl hl.1 rfl (Nat.le_of_ble_eq_true rfl) ⟨Nat.le_of_ble_eq_true rfl, Nat.le_of_ble_eq_true rfl⟩ ⟨Nat.le_of_ble_eq_true rfl, Nat.le_of_ble_eq_true rfl⟩ dX12_livesBy_25 (fun z_10 w1 H locs hq hB => ?_)
    obtain ⟨h_11, i_t_6, r_t_foremost_7, r_t_bears_8, r_t_worn_9, rfl, hf⟩ := hq
    replace hB : Bd D A s.heap (wd_LongTrainModel_livesBy k a_t d_t i_t_6 j_t r_t_s r_t_wagons r_t_strengths r_t_worn_9 r_t_foremost_7 r_t_bears_8 r_t_places) H locs := hB.sub [1, 4, 3, 6, 7, 2, 5, 0] (by decide) rfl
    refine lv_if_eq (tgt := 33) hx hb dX12_livesBy_28 (by decide) (fun c_24 => ?_) (fun c_24 => ?_)
    · replace hf := hf.1 c_24
      refine lv_aload_n hx hb dX12_livesBy_33 rfl (lv_at hl 0 rfl) ?_
      refine lv_iload_n hx hb dX12_livesBy_34 rfl (lv_at hl 3 rfl) ?_
      refine k_vi (wr := [((d_t 22), ai k 20 r_t_wagons), ((d_t 25), ai k 20 r_t_strengths), ((d_t 26), ai k 20 r_t_worn_9), ((d_t 23), ai k 20 r_t_foremost_7), ((d_t 24), ai k 20 r_t_bears_8), ((d_t 30), ai k 4 r_t_places)]) (rest := []) F hA hB (c_LongTrainModel_haltOf l D k a_t d_t i_t_6 j_t r_t_s x3 _  hf) ml_RX12_332 mv_yX12_haltOf [0, 1] [2, 3, 4, 5, 6, 7] rfl rfl (by decide) (by decide) (by decide) 0 rfl rfl rfl hl.1 rfl (Nat.le_of_ble_eq_true rfl) ⟨Nat.le_of_ble_eq_true rfl, Nat.le_of_ble_eq_true rfl⟩ ⟨Nat.le_of_ble_eq_true rfl, Nat.le_of_ble_eq_true rfl⟩ dX12_livesBy_35 (fun z_12 w1 H locs hq hB => ?_)
      obtain ⟨rfl, hf⟩ := hq
      replace hB : Bd D A s.heap (wd_LongTrainModel_livesBy k a_t d_t i_t_6 j_t r_t_s r_t_wagons r_t_strengths r_t_worn_9 r_t_foremost_7 r_t_bears_8 r_t_places) H locs := hB.sub [6, 7, 0, 1, 2, 3, 4, 5] (by decide) rfl
      refine lv_istore (lv' := [(4, .int z_12), (0, .ref a_t), (1, .int x1), (2, .int x2), (3, .int x3)]) hx hb dX12_livesBy_38 hl (by decide) rfl (fun ls hl => ?_)
      refine lv_iload hx hb dX12_livesBy_40 (lv_at hl 0 rfl) ?_
      refine lv_if_ge (tgt := 48) hx hb dX12_livesBy_42 (by decide) (fun c_23 => ?_) (fun c_23 => ?_)
      · replace hf := hf.1 c_23
        refine lv_aload_n hx hb dX12_livesBy_48 rfl (lv_at hl 1 rfl) ?_
        refine g_get (w := .int (i_t_6 27)) F hB 0 rfl fl_RX12_270 rfl dX12_livesBy_49 ?_
        refine lv_bipush (v := 20) hx hb dX12_livesBy_52 (by decide) ?_
        refine lv_icmp_ge (tgt := 102) hx hb dX12_livesBy_54 (by decide) (fun c_22 => ?_) (fun c_22 => ?_)
        · replace hf := hf.1 c_22
          refine lv_iinc (v := (x2 + 1)) (lv' := [(2, .int (x2 + 1)), (4, .int z_12), (0, .ref a_t), (1, .int x1), (3, .int x3)]) (k := 3) hx hb dX12_livesBy_102 hl rfl rfl (by decide) rfl (fun ls hl => ?_)
          refine lv_iinc (v := (x3 + 1)) (lv' := [(3, .int (x3 + 1)), (2, .int (x2 + 1)), (4, .int z_12), (0, .ref a_t), (1, .int x1)]) (k := 4) hx hb dX12_livesBy_105 hl rfl rfl (by decide) rfl (fun ls hl => ?_)
          refine lv_goto (tgt := 13) hx hb dX12_livesBy_108 (by decide) ?_
          exact hkr_13 _ _ _ _ _ _ _ _ _ _ _ hf hB (lv_sub hl [3, 4, 1, 0] rfl)
        · replace hf := hf.2 c_22
          refine lv_aload_n hx hb dX12_livesBy_57 rfl (lv_at hl 1 rfl) ?_
          refine lv_aload_n hx hb dX12_livesBy_58 rfl (lv_at hl 1 rfl) ?_
          refine lv_iload_n hx hb dX12_livesBy_59 rfl (lv_at hl 2 rfl) ?_
          refine lv_aload_n hx hb dX12_livesBy_60 rfl (lv_at hl 1 rfl) ?_
          refine g_get (w := .int (i_t_6 32)) F hB 0 rfl fl_RX12_326 rfl dX12_livesBy_61 ?_
          refine lv_aload_n hx hb dX12_livesBy_64 rfl (lv_at hl 1 rfl) ?_
          refine lv_iload hx hb dX12_livesBy_65 (lv_at hl 0 rfl) ?_
          refine k_vi (wr := [((d_t 22), ai k 20 r_t_wagons), ((d_t 25), ai k 20 r_t_strengths), ((d_t 26), ai k 20 r_t_worn_9), ((d_t 23), ai k 20 r_t_foremost_7), ((d_t 24), ai k 20 r_t_bears_8), ((d_t 30), ai k 4 r_t_places)]) (rest := [.int (i_t_6 32), .int x1, .ref a_t, .ref a_t]) F hA hB (c_LongTrainModel_addsOf l D k a_t d_t i_t_6 j_t r_t_s z_12 _  hf) ml_RX12_264 mv_yX12_addsOf [0, 1] [2, 3, 4, 5, 6, 7] rfl rfl (by decide) (by decide) (by decide) 0 rfl rfl rfl hl.1 rfl (Nat.le_of_ble_eq_true rfl) ⟨Nat.le_of_ble_eq_true rfl, Nat.le_of_ble_eq_true rfl⟩ ⟨Nat.le_of_ble_eq_true rfl, Nat.le_of_ble_eq_true rfl⟩ dX12_livesBy_67 (fun z_13 w1 H locs hq hB => ?_)
          obtain ⟨rfl, hf⟩ := hq
          replace hB : Bd D A s.heap (wd_LongTrainModel_livesBy k a_t d_t i_t_6 j_t r_t_s r_t_wagons r_t_strengths r_t_worn_9 r_t_foremost_7 r_t_bears_8 r_t_places) H locs := hB.sub [6, 7, 0, 1, 2, 3, 4, 5] (by decide) rfl
          refine k_vi (wr := [((d_t 22), ai k 20 r_t_wagons), ((d_t 26), ai k 20 r_t_worn_9), ((d_t 23), ai k 20 r_t_foremost_7), ((d_t 24), ai k 20 r_t_bears_8)]) (rest := [.ref a_t]) F hA hB (c_LongTrainModel_placeBy l D k a_t d_t i_t_6 j_t r_t_places r_t_strengths r_t_s x1 (i_t_6 32) z_13 _  hf) ml_RX12_335 mv_yX12_placeBy [0, 7, 3, 1] [2, 4, 5, 6] rfl rfl (by decide) (by decide) (by decide) 0 rfl rfl rfl hl.1 rfl (Nat.le_of_ble_eq_true rfl) ⟨Nat.le_of_ble_eq_true rfl, Nat.le_of_ble_eq_true rfl⟩ ⟨Nat.le_of_ble_eq_true rfl, Nat.le_of_ble_eq_true rfl⟩ dX12_livesBy_70 (fun z_14 w1 H locs hq hB => ?_)
          obtain ⟨rfl, hf⟩ := hq
          replace hB : Bd D A s.heap (wd_LongTrainModel_livesBy k a_t d_t i_t_6 j_t r_t_s r_t_wagons r_t_strengths r_t_worn_9 r_t_foremost_7 r_t_bears_8 r_t_places) H locs := hB.sub [4, 7, 0, 6, 1, 2, 3, 5] (by decide) rfl
          refine lv_aload_n hx hb dX12_livesBy_73 rfl (lv_at hl 1 rfl) ?_
          refine lv_iload hx hb dX12_livesBy_74 (lv_at hl 0 rfl) ?_
          refine k_vi (wr := [((d_t 22), ai k 20 r_t_wagons), ((d_t 25), ai k 20 r_t_strengths), ((d_t 26), ai k 20 r_t_worn_9), ((d_t 23), ai k 20 r_t_foremost_7), ((d_t 24), ai k 20 r_t_bears_8), ((d_t 30), ai k 4 r_t_places)]) (rest := [.int z_14, .ref a_t]) F hA hB (c_LongTrainModel_addsOf l D k a_t d_t i_t_6 j_t r_t_s z_12 _  hf) ml_RX12_264 mv_yX12_addsOf [0, 1] [2, 3, 4, 5, 6, 7] rfl rfl (by decide) (by decide) (by decide) 0 rfl rfl rfl hl.1 rfl (Nat.le_of_ble_eq_true rfl) ⟨Nat.le_of_ble_eq_true rfl, Nat.le_of_ble_eq_true rfl⟩ ⟨Nat.le_of_ble_eq_true rfl, Nat.le_of_ble_eq_true rfl⟩ dX12_livesBy_76 (fun z_15 w1 H locs hq hB => ?_)
          obtain ⟨rfl, hf⟩ := hq
          replace hB : Bd D A s.heap (wd_LongTrainModel_livesBy k a_t d_t i_t_6 j_t r_t_s r_t_wagons r_t_strengths r_t_worn_9 r_t_foremost_7 r_t_bears_8 r_t_places) H locs := hB.sub [6, 7, 0, 1, 2, 3, 4, 5] (by decide) rfl
          refine lv_aload_n hx hb dX12_livesBy_79 rfl (lv_at hl 1 rfl) ?_
          refine lv_aload_n hx hb dX12_livesBy_80 rfl (lv_at hl 1 rfl) ?_
          refine lv_iload hx hb dX12_livesBy_81 (lv_at hl 0 rfl) ?_
          refine k_vi (wr := [((d_t 22), ai k 20 r_t_wagons), ((d_t 25), ai k 20 r_t_strengths), ((d_t 26), ai k 20 r_t_worn_9), ((d_t 23), ai k 20 r_t_foremost_7), ((d_t 24), ai k 20 r_t_bears_8), ((d_t 30), ai k 4 r_t_places)]) (rest := [.ref a_t, .int z_15, .int z_14, .ref a_t]) F hA hB (c_LongTrainModel_addsOf l D k a_t d_t i_t_6 j_t r_t_s z_12 _  hf) ml_RX12_264 mv_yX12_addsOf [0, 1] [2, 3, 4, 5, 6, 7] rfl rfl (by decide) (by decide) (by decide) 0 rfl rfl rfl hl.1 rfl (Nat.le_of_ble_eq_true rfl) ⟨Nat.le_of_ble_eq_true rfl, Nat.le_of_ble_eq_true rfl⟩ ⟨Nat.le_of_ble_eq_true rfl, Nat.le_of_ble_eq_true rfl⟩ dX12_livesBy_83 (fun z_16 w1 H locs hq hB => ?_)
          obtain ⟨rfl, hf⟩ := hq
          replace hB : Bd D A s.heap (wd_LongTrainModel_livesBy k a_t d_t i_t_6 j_t r_t_s r_t_wagons r_t_strengths r_t_worn_9 r_t_foremost_7 r_t_bears_8 r_t_places) H locs := hB.sub [6, 7, 0, 1, 2, 3, 4, 5] (by decide) rfl
          refine k_vi (wr := [((d_t 22), ai k 20 r_t_wagons), ((d_t 25), ai k 20 r_t_strengths), ((d_t 26), ai k 20 r_t_worn_9), ((d_t 23), ai k 20 r_t_foremost_7), ((d_t 24), ai k 20 r_t_bears_8), ((d_t 30), ai k 4 r_t_places)]) (rest := [.int z_15, .int z_14, .ref a_t]) F hA hB (c_LongTrainModel_strengthOf l D k a_t d_t i_t_6 j_t r_t_s z_16 _  hf) ml_RX12_312 mv_yX12_strengthOf [0, 1] [2, 3, 4, 5, 6, 7] rfl rfl (by decide) (by decide) (by decide) 0 rfl rfl rfl hl.1 rfl (Nat.le_of_ble_eq_true rfl) ⟨Nat.le_of_ble_eq_true rfl, Nat.le_of_ble_eq_true rfl⟩ ⟨Nat.le_of_ble_eq_true rfl, Nat.le_of_ble_eq_true rfl⟩ dX12_livesBy_86 (fun z_17 w1 H locs hq hB => ?_)
          obtain ⟨rfl, hf⟩ := hq
          replace hB : Bd D A s.heap (wd_LongTrainModel_livesBy k a_t d_t i_t_6 j_t r_t_s r_t_wagons r_t_strengths r_t_worn_9 r_t_foremost_7 r_t_bears_8 r_t_places) H locs := hB.sub [6, 7, 0, 1, 2, 3, 4, 5] (by decide) rfl
          refine k_vv (wr := [((d_t 6), ai k 1068 r_t_s), ((d_t 23), ai k 20 r_t_foremost_7), ((d_t 24), ai k 20 r_t_bears_8), ((d_t 30), ai k 4 r_t_places)]) (rest := []) F hA hB (c_LongTrainModel_inserts l D k a_t d_t i_t_6 j_t r_t_wagons r_t_strengths r_t_worn_9 z_14 z_15 z_17 _  hf) ml_RX12_319 mv_yX12_inserts [0, 2, 3, 4] [1, 5, 6, 7] rfl rfl (by decide) (by decide) (by decide) 0 rfl rfl rfl hl.1 rfl (Nat.le_of_ble_eq_true rfl) ⟨Nat.le_of_ble_eq_true rfl, Nat.le_of_ble_eq_true rfl⟩ ⟨Nat.le_of_ble_eq_true rfl, Nat.le_of_ble_eq_true rfl⟩ dX12_livesBy_89 (fun w1 H locs hq hB => ?_)
          obtain ⟨i_t_18, r_t_wagons_19, r_t_strengths_20, r_t_worn_21, rfl, hf⟩ := hq
          replace hB : Bd D A s.heap (wd_LongTrainModel_livesBy k a_t d_t i_t_18 j_t r_t_s r_t_wagons_19 r_t_strengths_20 r_t_worn_21 r_t_foremost_7 r_t_bears_8 r_t_places) H locs := hB.sub [4, 0, 5, 6, 7, 1, 2, 3] (by decide) rfl
          refine lv_aload_n hx hb dX12_livesBy_92 rfl (lv_at hl 1 rfl) ?_
          refine lv_dup hx hb dX12_livesBy_93 rfl ?_
          refine g_get (w := .int (i_t_18 32)) F hB 0 rfl fl_RX12_326 rfl dX12_livesBy_94 ?_
          refine lv_iconst (v := 1) hx hb dX12_livesBy_97 (by decide) ?_
          refine lv_iadd hx hb dX12_livesBy_98 ?_
          refine g_puti F hB 0 rfl fl_RX12_326 rfl (wd_LongTrainModel_livesBy k a_t d_t (upd i_t_18 32 ((i_t_18 32) + (1 : Int32))) j_t r_t_s r_t_wagons_19 r_t_strengths_20 r_t_worn_21 r_t_foremost_7 r_t_bears_8 r_t_places) rfl dX12_livesBy_99 (fun H locs hB => ?_)
          refine lv_iinc (v := (x2 + 1)) (lv' := [(2, .int (x2 + 1)), (4, .int z_12), (0, .ref a_t), (1, .int x1), (3, .int x3)]) (k := 3) hx hb dX12_livesBy_102 hl rfl rfl (by decide) rfl (fun ls hl => ?_)
          refine lv_iinc (v := (x3 + 1)) (lv' := [(3, .int (x3 + 1)), (2, .int (x2 + 1)), (4, .int z_12), (0, .ref a_t), (1, .int x1)]) (k := 4) hx hb dX12_livesBy_105 hl rfl rfl (by decide) rfl (fun ls hl => ?_)
          refine lv_goto (tgt := 13) hx hb dX12_livesBy_108 (by decide) ?_
          exact hkr_13 _ _ _ _ _ _ _ _ _ _ _ hf hB (lv_sub hl [3, 4, 1, 0] rfl)
      · replace hf := hf.2 c_23
        refine lv_goto (tgt := 105) hx hb dX12_livesBy_45 (by decide) ?_
        refine lv_iinc (v := (x3 + 1)) (lv' := [(3, .int (x3 + 1)), (4, .int z_12), (0, .ref a_t), (1, .int x1), (2, .int x2)]) (k := 4) hx hb dX12_livesBy_105 hl rfl rfl (by decide) rfl (fun ls hl => ?_)
        refine lv_goto (tgt := 13) hx hb dX12_livesBy_108 (by decide) ?_
        exact hkr_13 _ _ _ _ _ _ _ _ _ _ _ hf hB (lv_sub hl [2, 3, 4, 0] rfl)
    · replace hf := hf.2 c_24
      refine lv_iload_n hx hb dX12_livesBy_31 rfl (lv_at hl 2 rfl) ?_
      exact r_i F hr hlk hB ⟨_, _, _, _, _, _, rfl, hf⟩ dX12_livesBy_32

set_option maxRecDepth 100000 in
set_option maxHeartbeats 4000000 in
theorem lt_LongTrainModel_livesBy_13 {p : Program} {l : Launch} {e : Env} {s : State} {m : MethodId} {below : List Frame} {meth : Method} {c : Code} {A : Nat → Prop} {D : va_G} {k : Nat → ClassId} {a_t : Nat} {d_t : Nat → Nat} {j_t : Nat → Int64} {r_t_s : Nat → Int32} {r_t_places : Nat → Int32} {n1 : Int32} {Q : Int32 → (Nat → Int32) → (Nat → Int32) → (Nat → Int32) → (Nat → Int32) → (Nat → Int32) → (Nat → Int32) → Prop}  {x1 : Int32} {kx_13 : (Int32) → (Nat → Int32) → (Nat → Int32) → (Nat → Int32) → (Nat → Int32) → (Nat → Int32) → (Nat → Int32) → Prop} (F : Fx p m c cX12_livesBy 5 s ([.ref a_t, .int n1] : List Value).toArray RX12 D k) (hr : meth.sig.returnType = (some .int)) (hlk : meth.locks = false) (hA : ∀ q : Nat, s.heap.size ≤ q → A q) (hkx_13 : ∀ (x2 : Int32) (i_t : Nat → Int32) (r_t_wagons : Nat → Int32) (r_t_strengths : Nat → Int32) (r_t_worn : Nat → Int32) (r_t_foremost : Nat → Int32) (r_t_bears : Nat → Int32) (H : Heap) (locs : List Loc) (ls : Array Slot), kx_13 x2 i_t r_t_wagons r_t_strengths r_t_worn r_t_foremost r_t_bears → Bd D A s.heap (wd_LongTrainModel_livesBy k a_t d_t i_t j_t r_t_s r_t_wagons r_t_strengths r_t_worn r_t_foremost r_t_bears r_t_places) H locs → lv_has ls 5 [(2, .int x2)] → W p l e { frames := 3, cells := 0, slots := 0, locals := 67 } s m ([.ref a_t, .int n1] : List Value).toArray below meth c H locs 0 0 (Ei below (fun r w => ∃ (i_t : Nat → Int32), ∃ (r_t_wagons : Nat → Int32), ∃ (r_t_strengths : Nat → Int32), ∃ (r_t_worn : Nat → Int32), ∃ (r_t_foremost : Nat → Int32), ∃ (r_t_bears : Nat → Int32), w = (wd_LongTrainModel_livesBy k a_t d_t i_t j_t r_t_s r_t_wagons r_t_strengths r_t_worn r_t_foremost r_t_bears r_t_places) ∧ Q r i_t r_t_wagons r_t_strengths r_t_worn r_t_foremost r_t_bears) D k A ([.ref a_t, .int n1] : List Value).toArray s 0 0) (F0 m 111 ls [])) :
    ∀ n : Nat, ∀ (x2 : Int32) (x3 : Int32) (i_t : Nat → Int32) (r_t_wagons : Nat → Int32) (r_t_strengths : Nat → Int32) (r_t_worn : Nat → Int32) (r_t_foremost : Nat → Int32) (r_t_bears : Nat → Int32) (H : Heap) (locs : List Loc) (ls : Array Slot), lp_LongTrainModel_livesBy_13 r_t_s r_t_places x1 Q kx_13 n x2 x3 i_t r_t_wagons r_t_strengths r_t_worn r_t_foremost r_t_bears → Bd D A s.heap (wd_LongTrainModel_livesBy k a_t d_t i_t j_t r_t_s r_t_wagons r_t_strengths r_t_worn r_t_foremost r_t_bears r_t_places) H locs → lv_has ls 5 [(0, .ref a_t), (1, .int x1), (2, .int x2), (3, .int x3)] → W p l e { frames := 3, cells := 0, slots := 0, locals := 67 } s m ([.ref a_t, .int n1] : List Value).toArray below meth c H locs 0 0 (Ei below (fun r w => ∃ (i_t : Nat → Int32), ∃ (r_t_wagons : Nat → Int32), ∃ (r_t_strengths : Nat → Int32), ∃ (r_t_worn : Nat → Int32), ∃ (r_t_foremost : Nat → Int32), ∃ (r_t_bears : Nat → Int32), w = (wd_LongTrainModel_livesBy k a_t d_t i_t j_t r_t_s r_t_wagons r_t_strengths r_t_worn r_t_foremost r_t_bears r_t_places) ∧ Q r i_t r_t_wagons r_t_strengths r_t_worn r_t_foremost r_t_bears) D k A ([.ref a_t, .int n1] : List Value).toArray s 0 0) (F0 m 13 ls []) := by
  intro n
  induction n with
  | zero => intro x2 x3 i_t r_t_wagons r_t_strengths r_t_worn r_t_foremost r_t_bears H locs ls hf; exact absurd hf (fun h => h)
  | succ n ih => exact bt_LongTrainModel_livesBy_13 F hr hlk hA hkx_13 ih

set_option maxRecDepth 100000 in
set_option maxHeartbeats 4000000 in
theorem c_LongTrainModel_livesBy (l : Launch) (D : va_G) (k : Nat → ClassId) (a_t : Nat) (d_t : Nat → Nat) (i_t : Nat → Int32) (j_t : Nat → Int64) (r_t_s : Nat → Int32) (r_t_wagons : Nat → Int32) (r_t_strengths : Nat → Int32) (r_t_worn : Nat → Int32) (r_t_foremost : Nat → Int32) (r_t_bears : Nat → Int32) (r_t_places : Nat → Int32) (n1 : Int32) (Q : Int32 → (Nat → Int32) → (Nat → Int32) → (Nat → Int32) → (Nat → Int32) → (Nat → Int32) → (Nat → Int32) → Prop)  (hf : w_LongTrainModel_livesBy i_t r_t_s r_t_wagons r_t_strengths r_t_worn r_t_foremost r_t_bears r_t_places n1 Q) : CtI l yX12_livesBy cX12_livesBy 5 (some .int) 3 67 0 0 D k [.ref a_t, .int n1] (wd_LongTrainModel_livesBy k a_t d_t i_t j_t r_t_s r_t_wagons r_t_strengths r_t_worn r_t_foremost r_t_bears r_t_places) (fun r w => ∃ (i_t : Nat → Int32), ∃ (r_t_wagons : Nat → Int32), ∃ (r_t_strengths : Nat → Int32), ∃ (r_t_worn : Nat → Int32), ∃ (r_t_foremost : Nat → Int32), ∃ (r_t_bears : Nat → Int32), w = (wd_LongTrainModel_livesBy k a_t d_t i_t j_t r_t_s r_t_wagons r_t_strengths r_t_worn r_t_foremost r_t_bears r_t_places) ∧ Q r i_t r_t_wagons r_t_strengths r_t_worn r_t_foremost r_t_bears) := by
  refine CtI.of (by decide) (Nat.le_of_ble_eq_true rfl) ?_
  intro p e s m below meth c A F hr hlk hnm hA hB ls hl
  have hx := F.x
  have hb := F.b
  unfold w_LongTrainModel_livesBy at hf
  replace hl : lv_has ls 5 [(0, .ref a_t), (1, .int n1)] := hl
  refine lv_aload_n hx hb dX12_livesBy_0 rfl (lv_at hl 0 rfl) ?_
  refine k_vv (wr := [((d_t 23), ai k 20 r_t_foremost), ((d_t 24), ai k 20 r_t_bears), ((d_t 30), ai k 4 r_t_places)]) (rest := []) F hA hB (c_LongTrainModel_starts l D k a_t d_t i_t j_t r_t_s r_t_wagons r_t_strengths r_t_worn _  hf) ml_RX12_323 mv_yX12_starts [0, 1, 2, 3, 4] [5, 6, 7] rfl rfl (by decide) (by decide) (by decide) 0 rfl rfl rfl hl.1 rfl (Nat.le_of_ble_eq_true rfl) ⟨Nat.le_of_ble_eq_true rfl, Nat.le_of_ble_eq_true rfl⟩ ⟨Nat.le_of_ble_eq_true rfl, Nat.le_of_ble_eq_true rfl⟩ dX12_livesBy_1 (fun w1 H locs hq hB => ?_)
  obtain ⟨i_t_1, r_t_wagons_2, r_t_strengths_3, r_t_worn_4, rfl, hf⟩ := hq
  replace hB : Bd D A s.heap (wd_LongTrainModel_livesBy k a_t d_t i_t_1 j_t r_t_s r_t_wagons_2 r_t_strengths_3 r_t_worn_4 r_t_foremost r_t_bears r_t_places) H locs := hB.sub [3, 4, 5, 6, 7, 0, 1, 2] (by decide) rfl
  refine lv_iconst (v := 0) hx hb dX12_livesBy_4 (by decide) ?_
  refine lv_istore_n (lv' := [(2, .int (0 : Int32)), (0, .ref a_t), (1, .int n1)]) hx hb dX12_livesBy_5 rfl hl (by decide) rfl (fun ls hl => ?_)
  refine lv_aload_n hx hb dX12_livesBy_6 rfl (lv_at hl 1 rfl) ?_
  refine lv_iconst (v := 0) hx hb dX12_livesBy_7 (by decide) ?_
  refine g_puti F hB 0 rfl fl_RX12_326 rfl (wd_LongTrainModel_livesBy k a_t d_t (upd i_t_1 32 (0 : Int32)) j_t r_t_s r_t_wagons_2 r_t_strengths_3 r_t_worn_4 r_t_foremost r_t_bears r_t_places) rfl dX12_livesBy_8 (fun H locs hB => ?_)
  refine lv_iconst (v := 1) hx hb dX12_livesBy_11 (by decide) ?_
  refine lv_istore_n (lv' := [(3, .int (1 : Int32)), (2, .int (0 : Int32)), (0, .ref a_t), (1, .int n1)]) hx hb dX12_livesBy_12 rfl hl (by decide) rfl (fun ls hl => ?_)
  obtain ⟨n_33, hf⟩ := hf
  refine lt_LongTrainModel_livesBy_13 F hr hlk hA (fun x2_26 i_t_27 r_t_wagons_28 r_t_strengths_29 r_t_worn_30 r_t_foremost_31 r_t_bears_32 H locs ls hf hB hl => ?_) n_33 _ _ _ _ _ _ _ _ _ _ _ hf hB (lv_sub hl [2, 3, 1, 0] rfl)
  refine lv_iload_n hx hb dX12_livesBy_111 rfl (lv_at hl 0 rfl) ?_
  exact r_i F hr hlk hB ⟨_, _, _, _, _, _, rfl, hf⟩ dX12_livesBy_112

/-! LongTrainModel.lives -/
set_option maxRecDepth 100000 in
set_option maxHeartbeats 4000000 in
theorem c_LongTrainModel_lives (l : Launch) (D : va_G) (k : Nat → ClassId) (a_t : Nat) (d_t : Nat → Nat) (i_t : Nat → Int32) (j_t : Nat → Int64) (r_t_s : Nat → Int32) (r_t_wagons : Nat → Int32) (r_t_strengths : Nat → Int32) (r_t_worn : Nat → Int32) (r_t_foremost : Nat → Int32) (r_t_bears : Nat → Int32) (r_t_places : Nat → Int32) (n1 : Int32) (Q : Int32 → (Nat → Int32) → (Nat → Int32) → (Nat → Int32) → (Nat → Int32) → (Nat → Int32) → (Nat → Int32) → Prop)  (hf : w_LongTrainModel_lives i_t r_t_s r_t_wagons r_t_strengths r_t_worn r_t_foremost r_t_bears r_t_places n1 Q) : CtI l yX12_lives cX12_lives 2 (some .int) 4 91 0 0 D k [.ref a_t, .int n1] (wd_LongTrainModel_lives k a_t d_t i_t j_t r_t_s r_t_wagons r_t_strengths r_t_worn r_t_foremost r_t_bears r_t_places) (fun r w => ∃ (i_t : Nat → Int32), ∃ (r_t_wagons : Nat → Int32), ∃ (r_t_strengths : Nat → Int32), ∃ (r_t_worn : Nat → Int32), ∃ (r_t_foremost : Nat → Int32), ∃ (r_t_bears : Nat → Int32), w = (wd_LongTrainModel_lives k a_t d_t i_t j_t r_t_s r_t_wagons r_t_strengths r_t_worn r_t_foremost r_t_bears r_t_places) ∧ Q r i_t r_t_wagons r_t_strengths r_t_worn r_t_foremost r_t_bears) := by
  refine CtI.of (by decide) (Nat.le_of_ble_eq_true rfl) ?_
  intro p e s m below meth c A F hr hlk hnm hA hB ls hl
  have hx := F.x
  have hb := F.b
  unfold w_LongTrainModel_lives at hf
  replace hl : lv_has ls 2 [(0, .ref a_t), (1, .int n1)] := hl
  refine lv_aload_n hx hb dX12_lives_0 rfl (lv_at hl 0 rfl) ?_
  refine lv_iconst (v := 0) hx hb dX12_lives_1 (by decide) ?_
  refine g_puti F hB 0 rfl fl_RX12_1 rfl (wd_LongTrainModel_lives k a_t d_t (upd i_t 0 (0 : Int32)) j_t r_t_s r_t_wagons r_t_strengths r_t_worn r_t_foremost r_t_bears r_t_places) rfl dX12_lives_2 (fun H locs hB => ?_)
  refine lv_iload_n hx hb dX12_lives_5 rfl (lv_at hl 1 rfl) ?_
  refine lv_iconst (v := 0) hx hb dX12_lives_6 (by decide) ?_
  refine lv_iconst (v := 2) hx hb dX12_lives_7 (by decide) ?_
  refine k_si (wr := [(a_t, ob 12 (rfd d_t) (upd i_t 0 (0 : Int32)) j_t), ((d_t 6), ai k 1068 r_t_s), ((d_t 22), ai k 20 r_t_wagons), ((d_t 25), ai k 20 r_t_strengths), ((d_t 26), ai k 20 r_t_worn), ((d_t 23), ai k 20 r_t_foremost), ((d_t 24), ai k 20 r_t_bears), ((d_t 30), ai k 4 r_t_places)]) (rest := []) F hA hB (c_LongTrainModel_isIn l D k n1 (0 : Int32) (2 : Int32) _  hf) ml_RX12_182 ms_yX12_isIn [] [0, 1, 2, 3, 4, 5, 6, 7] rfl rfl (by decide) (by decide) (by decide) rfl hl.1 rfl (Nat.le_of_ble_eq_true rfl) ⟨Nat.le_of_ble_eq_true rfl, Nat.le_of_ble_eq_true rfl⟩ ⟨Nat.le_of_ble_eq_true rfl, Nat.le_of_ble_eq_true rfl⟩ dX12_lives_8 (fun z_1 w1 H locs hq hB => ?_)
  obtain ⟨h_2, rfl, hf⟩ := hq
  replace hB : Bd D A s.heap (wd_LongTrainModel_lives k a_t d_t (upd i_t 0 (0 : Int32)) j_t r_t_s r_t_wagons r_t_strengths r_t_worn r_t_foremost r_t_bears r_t_places) H locs := hB.sub [0, 1, 2, 3, 4, 5, 6, 7] (by decide) rfl
  refine lv_if_eq (tgt := 22) hx hb dX12_lives_11 (by decide) (fun c_10 => ?_) (fun c_10 => ?_)
  · replace hf := hf.1 c_10
    refine lv_iconst (v := -1) hx hb dX12_lives_22 (by decide) ?_
    exact r_i F hr hlk hB ⟨_, _, _, _, _, _, rfl, hf⟩ dX12_lives_23
  · replace hf := hf.2 c_10
    refine lv_aload_n hx hb dX12_lives_14 rfl (lv_at hl 0 rfl) ?_
    refine lv_iload_n hx hb dX12_lives_15 rfl (lv_at hl 1 rfl) ?_
    refine k_vi (wr := []) (rest := []) F hA hB (c_LongTrainModel_livesBy l D k a_t d_t (upd i_t 0 (0 : Int32)) j_t r_t_s r_t_wagons r_t_strengths r_t_worn r_t_foremost r_t_bears r_t_places n1 _  hf) ml_RX12_339 mv_yX12_livesBy [0, 1, 2, 3, 4, 5, 6, 7] [] rfl rfl (by decide) (by decide) (by decide) 0 rfl rfl rfl hl.1 rfl (Nat.le_of_ble_eq_true rfl) ⟨Nat.le_of_ble_eq_true rfl, Nat.le_of_ble_eq_true rfl⟩ ⟨Nat.le_of_ble_eq_true rfl, Nat.le_of_ble_eq_true rfl⟩ dX12_lives_16 (fun z_9 w1 H locs hq hB => ?_)
    obtain ⟨i_t_3, r_t_wagons_4, r_t_strengths_5, r_t_worn_6, r_t_foremost_7, r_t_bears_8, rfl, hf⟩ := hq
    replace hB : Bd D A s.heap (wd_LongTrainModel_lives k a_t d_t i_t_3 j_t r_t_s r_t_wagons_4 r_t_strengths_5 r_t_worn_6 r_t_foremost_7 r_t_bears_8 r_t_places) H locs := hB.sub [0, 1, 2, 3, 4, 5, 6, 7] (by decide) rfl
    refine lv_goto (tgt := 23) hx hb dX12_lives_19 (by decide) ?_
    exact r_i F hr hlk hB ⟨_, _, _, _, _, _, rfl, hf⟩ dX12_lives_23

/-! LongTrainModel.longest -/
set_option maxRecDepth 100000 in
set_option maxHeartbeats 4000000 in
theorem bt_LongTrainModel_longest_9 {p : Program} {l : Launch} {e : Env} {s : State} {m : MethodId} {below : List Frame} {meth : Method} {c : Code} {A : Nat → Prop} {D : va_G} {k : Nat → ClassId} {a_t : Nat} {d_t : Nat → Nat} {i_t : Nat → Int32} {j_t : Nat → Int64} {r_t_s : Nat → Int32} {r_t_wagons : Nat → Int32} {r_t_strengths : Nat → Int32} {r_t_worn : Nat → Int32} {r_t_foremost : Nat → Int32} {r_t_bears : Nat → Int32} {r_t_bestPlaces : Nat → Int32}  {Q : Int32 → (Nat → Int32) → (Nat → Int32) → (Nat → Int32) → (Nat → Int32) → (Nat → Int32) → (Nat → Int32) → (Nat → Int32) → (Nat → Int32) → Prop}  {x1 : Int32} {kx_9 : (Nat → Int32) → Prop} {kr_9 : (Int32) → (Nat → Int32) → Prop} (F : Fx p m c cX12_longest 5 s ([.ref a_t] : List Value).toArray RX12 D k) (hr : meth.sig.returnType = (some .int)) (hlk : meth.locks = false) (hA : ∀ q : Nat, s.heap.size ≤ q → A q) (hkx_9 : ∀ (r_t_places : Nat → Int32) (H : Heap) (locs : List Loc) (ls : Array Slot), kx_9 r_t_places → Bd D A s.heap (wd_LongTrainModel_longest k a_t d_t i_t j_t r_t_places r_t_s r_t_wagons r_t_strengths r_t_worn r_t_foremost r_t_bears r_t_bestPlaces) H locs → lv_has ls 5 [(0, .ref a_t), (1, .int x1)] → W p l e { frames := 4, cells := 0, slots := 0, locals := 91 } s m ([.ref a_t] : List Value).toArray below meth c H locs 0 0 (Ei below (fun r w => ∃ (i_t : Nat → Int32), ∃ (r_t_places : Nat → Int32), ∃ (r_t_wagons : Nat → Int32), ∃ (r_t_strengths : Nat → Int32), ∃ (r_t_worn : Nat → Int32), ∃ (r_t_foremost : Nat → Int32), ∃ (r_t_bears : Nat → Int32), ∃ (r_t_bestPlaces : Nat → Int32), w = (wd_LongTrainModel_longest k a_t d_t i_t j_t r_t_places r_t_s r_t_wagons r_t_strengths r_t_worn r_t_foremost r_t_bears r_t_bestPlaces) ∧ Q r i_t r_t_places r_t_wagons r_t_strengths r_t_worn r_t_foremost r_t_bears r_t_bestPlaces) D k A ([.ref a_t] : List Value).toArray s 0 0) (F0 m 27 ls [])) (hkr_9 : ∀ (x2 : Int32) (r_t_places : Nat → Int32) (H : Heap) (locs : List Loc) (ls : Array Slot), kr_9 x2 r_t_places → Bd D A s.heap (wd_LongTrainModel_longest k a_t d_t i_t j_t r_t_places r_t_s r_t_wagons r_t_strengths r_t_worn r_t_foremost r_t_bears r_t_bestPlaces) H locs → lv_has ls 5 [(0, .ref a_t), (1, .int x1), (2, .int x2)] → W p l e { frames := 4, cells := 0, slots := 0, locals := 91 } s m ([.ref a_t] : List Value).toArray below meth c H locs 0 0 (Ei below (fun r w => ∃ (i_t : Nat → Int32), ∃ (r_t_places : Nat → Int32), ∃ (r_t_wagons : Nat → Int32), ∃ (r_t_strengths : Nat → Int32), ∃ (r_t_worn : Nat → Int32), ∃ (r_t_foremost : Nat → Int32), ∃ (r_t_bears : Nat → Int32), ∃ (r_t_bestPlaces : Nat → Int32), w = (wd_LongTrainModel_longest k a_t d_t i_t j_t r_t_places r_t_s r_t_wagons r_t_strengths r_t_worn r_t_foremost r_t_bears r_t_bestPlaces) ∧ Q r i_t r_t_places r_t_wagons r_t_strengths r_t_worn r_t_foremost r_t_bears r_t_bestPlaces) D k A ([.ref a_t] : List Value).toArray s 0 0) (F0 m 9 ls [])) :
    ∀ (x2 : Int32) (r_t_places : Nat → Int32) (H : Heap) (locs : List Loc) (ls : Array Slot), b_LongTrainModel_longest_9 kx_9 kr_9 x2 r_t_places → Bd D A s.heap (wd_LongTrainModel_longest k a_t d_t i_t j_t r_t_places r_t_s r_t_wagons r_t_strengths r_t_worn r_t_foremost r_t_bears r_t_bestPlaces) H locs → lv_has ls 5 [(0, .ref a_t), (1, .int x1), (2, .int x2)] → W p l e { frames := 4, cells := 0, slots := 0, locals := 91 } s m ([.ref a_t] : List Value).toArray below meth c H locs 0 0 (Ei below (fun r w => ∃ (i_t : Nat → Int32), ∃ (r_t_places : Nat → Int32), ∃ (r_t_wagons : Nat → Int32), ∃ (r_t_strengths : Nat → Int32), ∃ (r_t_worn : Nat → Int32), ∃ (r_t_foremost : Nat → Int32), ∃ (r_t_bears : Nat → Int32), ∃ (r_t_bestPlaces : Nat → Int32), w = (wd_LongTrainModel_longest k a_t d_t i_t j_t r_t_places r_t_s r_t_wagons r_t_strengths r_t_worn r_t_foremost r_t_bears r_t_bestPlaces) ∧ Q r i_t r_t_places r_t_wagons r_t_strengths r_t_worn r_t_foremost r_t_bears r_t_bestPlaces) D k A ([.ref a_t] : List Value).toArray s 0 0) (F0 m 9 ls []) := by
  have hx := F.x
  have hb := F.b
  intro x2 r_t_places H locs ls hf hB hl
  unfold b_LongTrainModel_longest_9 at hf
  refine lv_iload_n hx hb dX12_longest_9 rfl (lv_at hl 2 rfl) ?_
  refine lv_iconst (v := 4) hx hb dX12_longest_10 (by decide) ?_
  refine lv_icmp_ge (tgt := 27) hx hb dX12_longest_11 (by decide) (fun c_2 => ?_) (fun c_2 => ?_)
  · replace hf := hf.1 c_2
    exact hkx_9 _ _ _ _ hf hB (lv_sub hl [0, 1] rfl)
  · replace hf := hf.2 c_2
    refine lv_aload_n hx hb dX12_longest_14 rfl (lv_at hl 0 rfl) ?_
    refine g_get (w := .ref (d_t 30)) F hB 0 rfl fl_RX12_68 rfl dX12_longest_15 ?_
    refine lv_iload_n hx hb dX12_longest_18 rfl (lv_at hl 2 rfl) ?_
    refine lv_iconst (v := 0) hx hb dX12_longest_19 (by decide) ?_
    obtain ⟨h_1, hf⟩ := hf
    refine g_iast F hB 1 rfl h_1 (wd_LongTrainModel_longest k a_t d_t i_t j_t (upd r_t_places (x2).toNatClampNeg (0 : Int32)) r_t_s r_t_wagons r_t_strengths r_t_worn r_t_foremost r_t_bears r_t_bestPlaces) rfl dX12_longest_20 (fun H locs hB => ?_)
    refine lv_iinc (v := (x2 + 1)) (lv' := [(2, .int (x2 + 1)), (0, .ref a_t), (1, .int x1)]) (k := 2) hx hb dX12_longest_21 hl rfl rfl (by decide) rfl (fun ls hl => ?_)
    refine lv_goto (tgt := 9) hx hb dX12_longest_24 (by decide) ?_
    exact hkr_9 _ _ _ _ _ hf hB (lv_sub hl [1, 2, 0] rfl)

set_option maxRecDepth 100000 in
set_option maxHeartbeats 4000000 in
theorem lt_LongTrainModel_longest_9 {p : Program} {l : Launch} {e : Env} {s : State} {m : MethodId} {below : List Frame} {meth : Method} {c : Code} {A : Nat → Prop} {D : va_G} {k : Nat → ClassId} {a_t : Nat} {d_t : Nat → Nat} {i_t : Nat → Int32} {j_t : Nat → Int64} {r_t_s : Nat → Int32} {r_t_wagons : Nat → Int32} {r_t_strengths : Nat → Int32} {r_t_worn : Nat → Int32} {r_t_foremost : Nat → Int32} {r_t_bears : Nat → Int32} {r_t_bestPlaces : Nat → Int32}  {Q : Int32 → (Nat → Int32) → (Nat → Int32) → (Nat → Int32) → (Nat → Int32) → (Nat → Int32) → (Nat → Int32) → (Nat → Int32) → (Nat → Int32) → Prop}  {x1 : Int32} {kx_9 : (Nat → Int32) → Prop} (F : Fx p m c cX12_longest 5 s ([.ref a_t] : List Value).toArray RX12 D k) (hr : meth.sig.returnType = (some .int)) (hlk : meth.locks = false) (hA : ∀ q : Nat, s.heap.size ≤ q → A q) (hkx_9 : ∀ (r_t_places : Nat → Int32) (H : Heap) (locs : List Loc) (ls : Array Slot), kx_9 r_t_places → Bd D A s.heap (wd_LongTrainModel_longest k a_t d_t i_t j_t r_t_places r_t_s r_t_wagons r_t_strengths r_t_worn r_t_foremost r_t_bears r_t_bestPlaces) H locs → lv_has ls 5 [(0, .ref a_t), (1, .int x1)] → W p l e { frames := 4, cells := 0, slots := 0, locals := 91 } s m ([.ref a_t] : List Value).toArray below meth c H locs 0 0 (Ei below (fun r w => ∃ (i_t : Nat → Int32), ∃ (r_t_places : Nat → Int32), ∃ (r_t_wagons : Nat → Int32), ∃ (r_t_strengths : Nat → Int32), ∃ (r_t_worn : Nat → Int32), ∃ (r_t_foremost : Nat → Int32), ∃ (r_t_bears : Nat → Int32), ∃ (r_t_bestPlaces : Nat → Int32), w = (wd_LongTrainModel_longest k a_t d_t i_t j_t r_t_places r_t_s r_t_wagons r_t_strengths r_t_worn r_t_foremost r_t_bears r_t_bestPlaces) ∧ Q r i_t r_t_places r_t_wagons r_t_strengths r_t_worn r_t_foremost r_t_bears r_t_bestPlaces) D k A ([.ref a_t] : List Value).toArray s 0 0) (F0 m 27 ls [])) :
    ∀ n : Nat, ∀ (x2 : Int32) (r_t_places : Nat → Int32) (H : Heap) (locs : List Loc) (ls : Array Slot), lp_LongTrainModel_longest_9 kx_9 n x2 r_t_places → Bd D A s.heap (wd_LongTrainModel_longest k a_t d_t i_t j_t r_t_places r_t_s r_t_wagons r_t_strengths r_t_worn r_t_foremost r_t_bears r_t_bestPlaces) H locs → lv_has ls 5 [(0, .ref a_t), (1, .int x1), (2, .int x2)] → W p l e { frames := 4, cells := 0, slots := 0, locals := 91 } s m ([.ref a_t] : List Value).toArray below meth c H locs 0 0 (Ei below (fun r w => ∃ (i_t : Nat → Int32), ∃ (r_t_places : Nat → Int32), ∃ (r_t_wagons : Nat → Int32), ∃ (r_t_strengths : Nat → Int32), ∃ (r_t_worn : Nat → Int32), ∃ (r_t_foremost : Nat → Int32), ∃ (r_t_bears : Nat → Int32), ∃ (r_t_bestPlaces : Nat → Int32), w = (wd_LongTrainModel_longest k a_t d_t i_t j_t r_t_places r_t_s r_t_wagons r_t_strengths r_t_worn r_t_foremost r_t_bears r_t_bestPlaces) ∧ Q r i_t r_t_places r_t_wagons r_t_strengths r_t_worn r_t_foremost r_t_bears r_t_bestPlaces) D k A ([.ref a_t] : List Value).toArray s 0 0) (F0 m 9 ls []) := by
  intro n
  induction n with
  | zero => intro x2 r_t_places H locs ls hf; exact absurd hf (fun h => h)
  | succ n ih => exact bt_LongTrainModel_longest_9 F hr hlk hA hkx_9 ih

set_option maxRecDepth 100000 in
set_option maxHeartbeats 4000000 in
theorem bt_LongTrainModel_longest_115 {p : Program} {l : Launch} {e : Env} {s : State} {m : MethodId} {below : List Frame} {meth : Method} {c : Code} {A : Nat → Prop} {D : va_G} {k : Nat → ClassId} {a_t : Nat} {d_t : Nat → Nat} {i_t : Nat → Int32} {j_t : Nat → Int64} {r_t_s : Nat → Int32} {r_t_wagons : Nat → Int32} {r_t_strengths : Nat → Int32} {r_t_worn : Nat → Int32} {r_t_foremost : Nat → Int32} {r_t_bears : Nat → Int32} {r_t_bestPlaces : Nat → Int32}  {Q : Int32 → (Nat → Int32) → (Nat → Int32) → (Nat → Int32) → (Nat → Int32) → (Nat → Int32) → (Nat → Int32) → (Nat → Int32) → (Nat → Int32) → Prop}  {x1 : Int32} {kx_115 : (Int32) → (Nat → Int32) → Prop} {kr_115 : (Int32) → (Nat → Int32) → Prop} (F : Fx p m c cX12_longest 5 s ([.ref a_t] : List Value).toArray RX12 D k) (hr : meth.sig.returnType = (some .int)) (hlk : meth.locks = false) (hA : ∀ q : Nat, s.heap.size ≤ q → A q) (hkx_115 : ∀ (x4 : Int32) (r_t_places : Nat → Int32) (H : Heap) (locs : List Loc) (ls : Array Slot), kx_115 x4 r_t_places → Bd D A s.heap (wd_LongTrainModel_longest k a_t d_t i_t j_t r_t_places r_t_s r_t_wagons r_t_strengths r_t_worn r_t_foremost r_t_bears r_t_bestPlaces) H locs → lv_has ls 5 [(0, .ref a_t), (1, .int x1), (4, .int x4)] → W p l e { frames := 4, cells := 0, slots := 0, locals := 91 } s m ([.ref a_t] : List Value).toArray below meth c H locs 0 0 (Ei below (fun r w => ∃ (i_t : Nat → Int32), ∃ (r_t_places : Nat → Int32), ∃ (r_t_wagons : Nat → Int32), ∃ (r_t_strengths : Nat → Int32), ∃ (r_t_worn : Nat → Int32), ∃ (r_t_foremost : Nat → Int32), ∃ (r_t_bears : Nat → Int32), ∃ (r_t_bestPlaces : Nat → Int32), w = (wd_LongTrainModel_longest k a_t d_t i_t j_t r_t_places r_t_s r_t_wagons r_t_strengths r_t_worn r_t_foremost r_t_bears r_t_bestPlaces) ∧ Q r i_t r_t_places r_t_wagons r_t_strengths r_t_worn r_t_foremost r_t_bears r_t_bestPlaces) D k A ([.ref a_t] : List Value).toArray s 0 0) (F0 m 154 ls [])) (hkr_115 : ∀ (x4 : Int32) (r_t_places : Nat → Int32) (H : Heap) (locs : List Loc) (ls : Array Slot), kr_115 x4 r_t_places → Bd D A s.heap (wd_LongTrainModel_longest k a_t d_t i_t j_t r_t_places r_t_s r_t_wagons r_t_strengths r_t_worn r_t_foremost r_t_bears r_t_bestPlaces) H locs → lv_has ls 5 [(0, .ref a_t), (1, .int x1), (4, .int x4)] → W p l e { frames := 4, cells := 0, slots := 0, locals := 91 } s m ([.ref a_t] : List Value).toArray below meth c H locs 0 0 (Ei below (fun r w => ∃ (i_t : Nat → Int32), ∃ (r_t_places : Nat → Int32), ∃ (r_t_wagons : Nat → Int32), ∃ (r_t_strengths : Nat → Int32), ∃ (r_t_worn : Nat → Int32), ∃ (r_t_foremost : Nat → Int32), ∃ (r_t_bears : Nat → Int32), ∃ (r_t_bestPlaces : Nat → Int32), w = (wd_LongTrainModel_longest k a_t d_t i_t j_t r_t_places r_t_s r_t_wagons r_t_strengths r_t_worn r_t_foremost r_t_bears r_t_bestPlaces) ∧ Q r i_t r_t_places r_t_wagons r_t_strengths r_t_worn r_t_foremost r_t_bears r_t_bestPlaces) D k A ([.ref a_t] : List Value).toArray s 0 0) (F0 m 115 ls [])) :
    ∀ (x4 : Int32) (r_t_places : Nat → Int32) (H : Heap) (locs : List Loc) (ls : Array Slot), b_LongTrainModel_longest_115 r_t_s kx_115 kr_115 x4 r_t_places → Bd D A s.heap (wd_LongTrainModel_longest k a_t d_t i_t j_t r_t_places r_t_s r_t_wagons r_t_strengths r_t_worn r_t_foremost r_t_bears r_t_bestPlaces) H locs → lv_has ls 5 [(0, .ref a_t), (1, .int x1), (4, .int x4)] → W p l e { frames := 4, cells := 0, slots := 0, locals := 91 } s m ([.ref a_t] : List Value).toArray below meth c H locs 0 0 (Ei below (fun r w => ∃ (i_t : Nat → Int32), ∃ (r_t_places : Nat → Int32), ∃ (r_t_wagons : Nat → Int32), ∃ (r_t_strengths : Nat → Int32), ∃ (r_t_worn : Nat → Int32), ∃ (r_t_foremost : Nat → Int32), ∃ (r_t_bears : Nat → Int32), ∃ (r_t_bestPlaces : Nat → Int32), w = (wd_LongTrainModel_longest k a_t d_t i_t j_t r_t_places r_t_s r_t_wagons r_t_strengths r_t_worn r_t_foremost r_t_bears r_t_bestPlaces) ∧ Q r i_t r_t_places r_t_wagons r_t_strengths r_t_worn r_t_foremost r_t_bears r_t_bestPlaces) D k A ([.ref a_t] : List Value).toArray s 0 0) (F0 m 115 ls []) := by
  have hx := F.x
  have hb := F.b
  intro x4 r_t_places H locs ls hf hB hl
  unfold b_LongTrainModel_longest_115 at hf
  refine lv_iload hx hb dX12_longest_115 (lv_at hl 2 rfl) ?_
  refine lv_if_lt (tgt := 154) hx hb dX12_longest_117 (by decide) (fun c_15 => ?_) (fun c_15 => ?_)
  · replace hf := hf.1 c_15
    exact hkx_115 _ _ _ _ _ hf hB (lv_sub hl [0, 1, 2] rfl)
  · replace hf := hf.2 c_15
    refine lv_aload_n hx hb dX12_longest_120 rfl (lv_at hl 0 rfl) ?_
    refine g_get (w := .ref (d_t 30)) F hB 0 rfl fl_RX12_68 rfl dX12_longest_121 ?_
    refine lv_iload hx hb dX12_longest_124 (lv_at hl 2 rfl) ?_
    obtain ⟨h_11, hf⟩ := hf
    refine g_iald F hB 1 rfl h_11 dX12_longest_126 ?_
    refine lv_aload_n hx hb dX12_longest_127 rfl (lv_at hl 0 rfl) ?_
    refine g_get (w := .ref (d_t 6)) F hB 0 rfl fl_RX12_33 rfl dX12_longest_128 ?_
    refine lv_bipush (v := 10) hx hb dX12_longest_131 (by decide) ?_
    refine g_iald F hB 2 rfl (vp_in_iff.mpr (by decide +kernel)) dX12_longest_133 ?_
    refine W.eq (g2 := F0 m 134 ls [.int (r_t_s 10), .int (r_t_places (x4).toNatClampNeg)]) rfl ?_
    refine lv_iload hx hb dX12_longest_134 (lv_at hl 2 rfl) ?_
    refine lv_iadd hx hb dX12_longest_136 ?_
    refine lv_icmp_ne (tgt := 154) hx hb dX12_longest_137 (by decide) (fun c_14 => ?_) (fun c_14 => ?_)
    · replace hf := hf.1 c_14
      exact hkx_115 _ _ _ _ _ hf hB (lv_sub hl [0, 1, 2] rfl)
    · replace hf := hf.2 c_14
      refine lv_aload_n hx hb dX12_longest_140 rfl (lv_at hl 0 rfl) ?_
      refine g_get (w := .ref (d_t 30)) F hB 0 rfl fl_RX12_68 rfl dX12_longest_141 ?_
      refine lv_iload hx hb dX12_longest_144 (lv_at hl 2 rfl) ?_
      refine lv_iconst (v := 0) hx hb dX12_longest_146 (by decide) ?_
      obtain ⟨h_13, hf⟩ := hf
      refine g_iast F hB 1 rfl h_13 (wd_LongTrainModel_longest k a_t d_t i_t j_t (upd r_t_places (x4).toNatClampNeg (0 : Int32)) r_t_s r_t_wagons r_t_strengths r_t_worn r_t_foremost r_t_bears r_t_bestPlaces) rfl dX12_longest_147 (fun H locs hB => ?_)
      refine lv_iinc (v := (x4 + (-1))) (lv' := [(4, .int (x4 + (-1))), (0, .ref a_t), (1, .int x1)]) (k := 2) hx hb dX12_longest_148 hl rfl rfl (by decide) rfl (fun ls hl => ?_)
      refine lv_goto (tgt := 115) hx hb dX12_longest_151 (by decide) ?_
      exact hkr_115 _ _ _ _ _ hf hB (lv_sub hl [1, 2, 0] rfl)

set_option maxRecDepth 100000 in
set_option maxHeartbeats 4000000 in
theorem lt_LongTrainModel_longest_115 {p : Program} {l : Launch} {e : Env} {s : State} {m : MethodId} {below : List Frame} {meth : Method} {c : Code} {A : Nat → Prop} {D : va_G} {k : Nat → ClassId} {a_t : Nat} {d_t : Nat → Nat} {i_t : Nat → Int32} {j_t : Nat → Int64} {r_t_s : Nat → Int32} {r_t_wagons : Nat → Int32} {r_t_strengths : Nat → Int32} {r_t_worn : Nat → Int32} {r_t_foremost : Nat → Int32} {r_t_bears : Nat → Int32} {r_t_bestPlaces : Nat → Int32}  {Q : Int32 → (Nat → Int32) → (Nat → Int32) → (Nat → Int32) → (Nat → Int32) → (Nat → Int32) → (Nat → Int32) → (Nat → Int32) → (Nat → Int32) → Prop}  {x1 : Int32} {kx_115 : (Int32) → (Nat → Int32) → Prop} (F : Fx p m c cX12_longest 5 s ([.ref a_t] : List Value).toArray RX12 D k) (hr : meth.sig.returnType = (some .int)) (hlk : meth.locks = false) (hA : ∀ q : Nat, s.heap.size ≤ q → A q) (hkx_115 : ∀ (x4 : Int32) (r_t_places : Nat → Int32) (H : Heap) (locs : List Loc) (ls : Array Slot), kx_115 x4 r_t_places → Bd D A s.heap (wd_LongTrainModel_longest k a_t d_t i_t j_t r_t_places r_t_s r_t_wagons r_t_strengths r_t_worn r_t_foremost r_t_bears r_t_bestPlaces) H locs → lv_has ls 5 [(0, .ref a_t), (1, .int x1), (4, .int x4)] → W p l e { frames := 4, cells := 0, slots := 0, locals := 91 } s m ([.ref a_t] : List Value).toArray below meth c H locs 0 0 (Ei below (fun r w => ∃ (i_t : Nat → Int32), ∃ (r_t_places : Nat → Int32), ∃ (r_t_wagons : Nat → Int32), ∃ (r_t_strengths : Nat → Int32), ∃ (r_t_worn : Nat → Int32), ∃ (r_t_foremost : Nat → Int32), ∃ (r_t_bears : Nat → Int32), ∃ (r_t_bestPlaces : Nat → Int32), w = (wd_LongTrainModel_longest k a_t d_t i_t j_t r_t_places r_t_s r_t_wagons r_t_strengths r_t_worn r_t_foremost r_t_bears r_t_bestPlaces) ∧ Q r i_t r_t_places r_t_wagons r_t_strengths r_t_worn r_t_foremost r_t_bears r_t_bestPlaces) D k A ([.ref a_t] : List Value).toArray s 0 0) (F0 m 154 ls [])) :
    ∀ n : Nat, ∀ (x4 : Int32) (r_t_places : Nat → Int32) (H : Heap) (locs : List Loc) (ls : Array Slot), lp_LongTrainModel_longest_115 r_t_s kx_115 n x4 r_t_places → Bd D A s.heap (wd_LongTrainModel_longest k a_t d_t i_t j_t r_t_places r_t_s r_t_wagons r_t_strengths r_t_worn r_t_foremost r_t_bears r_t_bestPlaces) H locs → lv_has ls 5 [(0, .ref a_t), (1, .int x1), (4, .int x4)] → W p l e { frames := 4, cells := 0, slots := 0, locals := 91 } s m ([.ref a_t] : List Value).toArray below meth c H locs 0 0 (Ei below (fun r w => ∃ (i_t : Nat → Int32), ∃ (r_t_places : Nat → Int32), ∃ (r_t_wagons : Nat → Int32), ∃ (r_t_strengths : Nat → Int32), ∃ (r_t_worn : Nat → Int32), ∃ (r_t_foremost : Nat → Int32), ∃ (r_t_bears : Nat → Int32), ∃ (r_t_bestPlaces : Nat → Int32), w = (wd_LongTrainModel_longest k a_t d_t i_t j_t r_t_places r_t_s r_t_wagons r_t_strengths r_t_worn r_t_foremost r_t_bears r_t_bestPlaces) ∧ Q r i_t r_t_places r_t_wagons r_t_strengths r_t_worn r_t_foremost r_t_bears r_t_bestPlaces) D k A ([.ref a_t] : List Value).toArray s 0 0) (F0 m 115 ls []) := by
  intro n
  induction n with
  | zero => intro x4 r_t_places H locs ls hf; exact absurd hf (fun h => h)
  | succ n ih => exact bt_LongTrainModel_longest_115 F hr hlk hA hkx_115 ih

set_option maxRecDepth 100000 in
set_option maxHeartbeats 4000000 in
theorem jt_LongTrainModel_longest_154 {p : Program} {l : Launch} {e : Env} {s : State} {m : MethodId} {below : List Frame} {meth : Method} {c : Code} {A : Nat → Prop} {D : va_G} {k : Nat → ClassId} {a_t : Nat} {d_t : Nat → Nat} {j_t : Nat → Int64} {r_t_s : Nat → Int32}  {Q : Int32 → (Nat → Int32) → (Nat → Int32) → (Nat → Int32) → (Nat → Int32) → (Nat → Int32) → (Nat → Int32) → (Nat → Int32) → (Nat → Int32) → Prop}  {kr_29 : (Int32) → (Int32) → (Nat → Int32) → (Nat → Int32) → (Nat → Int32) → (Nat → Int32) → (Nat → Int32) → (Nat → Int32) → (Nat → Int32) → (Nat → Int32) → Prop} (F : Fx p m c cX12_longest 5 s ([.ref a_t] : List Value).toArray RX12 D k) (hr : meth.sig.returnType = (some .int)) (hlk : meth.locks = false) (hA : ∀ q : Nat, s.heap.size ≤ q → A q) (hkr_29 : ∀ (x1 : Int32) (x2 : Int32) (i_t : Nat → Int32) (r_t_places : Nat → Int32) (r_t_wagons : Nat → Int32) (r_t_strengths : Nat → Int32) (r_t_worn : Nat → Int32) (r_t_foremost : Nat → Int32) (r_t_bears : Nat → Int32) (r_t_bestPlaces : Nat → Int32) (H : Heap) (locs : List Loc) (ls : Array Slot), kr_29 x1 x2 i_t r_t_places r_t_wagons r_t_strengths r_t_worn r_t_foremost r_t_bears r_t_bestPlaces → Bd D A s.heap (wd_LongTrainModel_longest k a_t d_t i_t j_t r_t_places r_t_s r_t_wagons r_t_strengths r_t_worn r_t_foremost r_t_bears r_t_bestPlaces) H locs → lv_has ls 5 [(0, .ref a_t), (1, .int x1), (2, .int x2)] → W p l e { frames := 4, cells := 0, slots := 0, locals := 91 } s m ([.ref a_t] : List Value).toArray below meth c H locs 0 0 (Ei below (fun r w => ∃ (i_t : Nat → Int32), ∃ (r_t_places : Nat → Int32), ∃ (r_t_wagons : Nat → Int32), ∃ (r_t_strengths : Nat → Int32), ∃ (r_t_worn : Nat → Int32), ∃ (r_t_foremost : Nat → Int32), ∃ (r_t_bears : Nat → Int32), ∃ (r_t_bestPlaces : Nat → Int32), w = (wd_LongTrainModel_longest k a_t d_t i_t j_t r_t_places r_t_s r_t_wagons r_t_strengths r_t_worn r_t_foremost r_t_bears r_t_bestPlaces) ∧ Q r i_t r_t_places r_t_wagons r_t_strengths r_t_worn r_t_foremost r_t_bears r_t_bestPlaces) D k A ([.ref a_t] : List Value).toArray s 0 0) (F0 m 29 ls [])) :
    ∀ (i_t : Nat → Int32) (r_t_places : Nat → Int32) (r_t_wagons : Nat → Int32) (r_t_strengths : Nat → Int32) (r_t_worn : Nat → Int32) (r_t_foremost : Nat → Int32) (r_t_bears : Nat → Int32) (r_t_bestPlaces : Nat → Int32) (x1 : Int32) (x4 : Int32) (H : Heap) (locs : List Loc) (ls : Array Slot), j_LongTrainModel_longest_154 i_t r_t_places r_t_wagons r_t_strengths r_t_worn r_t_foremost r_t_bears r_t_bestPlaces x1 x4 kr_29 → Bd D A s.heap (wd_LongTrainModel_longest k a_t d_t i_t j_t r_t_places r_t_s r_t_wagons r_t_strengths r_t_worn r_t_foremost r_t_bears r_t_bestPlaces) H locs → lv_has ls 5 [(0, .ref a_t), (1, .int x1), (4, .int x4)] → W p l e { frames := 4, cells := 0, slots := 0, locals := 91 } s m ([.ref a_t] : List Value).toArray below meth c H locs 0 0 (Ei below (fun r w => ∃ (i_t : Nat → Int32), ∃ (r_t_places : Nat → Int32), ∃ (r_t_wagons : Nat → Int32), ∃ (r_t_strengths : Nat → Int32), ∃ (r_t_worn : Nat → Int32), ∃ (r_t_foremost : Nat → Int32), ∃ (r_t_bears : Nat → Int32), ∃ (r_t_bestPlaces : Nat → Int32), w = (wd_LongTrainModel_longest k a_t d_t i_t j_t r_t_places r_t_s r_t_wagons r_t_strengths r_t_worn r_t_foremost r_t_bears r_t_bestPlaces) ∧ Q r i_t r_t_places r_t_wagons r_t_strengths r_t_worn r_t_foremost r_t_bears r_t_bestPlaces) D k A ([.ref a_t] : List Value).toArray s 0 0) (F0 m 154 ls []) := by
  have hx := F.x
  have hb := F.b
  intro i_t r_t_places r_t_wagons r_t_strengths r_t_worn r_t_foremost r_t_bears r_t_bestPlaces x1 x4 H locs ls hf hB hl
  unfold j_LongTrainModel_longest_154 at hf
  refine lv_iload hx hb dX12_longest_154 (lv_at hl 2 rfl) ?_
  refine lv_if_lt (tgt := 163) hx hb dX12_longest_156 (by decide) (fun c_24 => ?_) (fun c_24 => ?_)
  · replace hf := hf.1 c_24
    refine lv_iconst (v := 0) hx hb dX12_longest_163 (by decide) ?_
    refine lv_istore_n (lv' := [(2, .int (0 : Int32)), (0, .ref a_t), (1, .int x1), (4, .int x4)]) hx hb dX12_longest_164 rfl hl (by decide) rfl (fun ls hl => ?_)
    refine lv_iload_n hx hb dX12_longest_165 rfl (lv_at hl 0 rfl) ?_
    refine lv_if_eq (tgt := 180) hx hb dX12_longest_166 (by decide) (fun c_20 => ?_) (fun c_20 => ?_)
    · replace hf := hf.1 c_20
      refine lv_goto (tgt := 29) hx hb dX12_longest_180 (by decide) ?_
      exact hkr_29 _ _ _ _ _ _ _ _ _ _ _ _ _ hf hB (lv_sub hl [1, 2, 0] rfl)
    · replace hf := hf.2 c_20
      refine lv_aload_n hx hb dX12_longest_169 rfl (lv_at hl 1 rfl) ?_
      refine g_get (w := .ref (d_t 30)) F hB 0 rfl fl_RX12_68 rfl dX12_longest_170 ?_
      refine lv_iload hx hb dX12_longest_173 (lv_at hl 3 rfl) ?_
      refine lv_dup2_11 hx hb dX12_longest_175 rfl rfl ?_
      obtain ⟨h_18, hf⟩ := hf
      refine g_iald F hB 1 rfl h_18 dX12_longest_176 ?_
      refine lv_iconst (v := 1) hx hb dX12_longest_177 (by decide) ?_
      refine lv_iadd hx hb dX12_longest_178 ?_
      obtain ⟨h_19, hf⟩ := hf
      refine g_iast F hB 1 rfl h_19 (wd_LongTrainModel_longest k a_t d_t i_t j_t (upd r_t_places (x4).toNatClampNeg ((r_t_places (x4).toNatClampNeg) + (1 : Int32))) r_t_s r_t_wagons r_t_strengths r_t_worn r_t_foremost r_t_bears r_t_bestPlaces) rfl dX12_longest_179 (fun H locs hB => ?_)
      refine lv_goto (tgt := 29) hx hb dX12_longest_180 (by decide) ?_
      exact hkr_29 _ _ _ _ _ _ _ _ _ _ _ _ _ hf hB (lv_sub hl [1, 2, 0] rfl)
  · replace hf := hf.2 c_24
    refine lv_iconst (v := 1) hx hb dX12_longest_159 (by decide) ?_
    refine lv_goto (tgt := 164) hx hb dX12_longest_160 (by decide) ?_
    refine lv_istore_n (lv' := [(2, .int (1 : Int32)), (0, .ref a_t), (1, .int x1), (4, .int x4)]) hx hb dX12_longest_164 rfl hl (by decide) rfl (fun ls hl => ?_)
    refine lv_iload_n hx hb dX12_longest_165 rfl (lv_at hl 0 rfl) ?_
    refine lv_if_eq (tgt := 180) hx hb dX12_longest_166 (by decide) (fun c_23 => ?_) (fun c_23 => ?_)
    · replace hf := hf.1 c_23
      refine lv_goto (tgt := 29) hx hb dX12_longest_180 (by decide) ?_
      exact hkr_29 _ _ _ _ _ _ _ _ _ _ _ _ _ hf hB (lv_sub hl [1, 2, 0] rfl)
    · replace hf := hf.2 c_23
      refine lv_aload_n hx hb dX12_longest_169 rfl (lv_at hl 1 rfl) ?_
      refine g_get (w := .ref (d_t 30)) F hB 0 rfl fl_RX12_68 rfl dX12_longest_170 ?_
      refine lv_iload hx hb dX12_longest_173 (lv_at hl 3 rfl) ?_
      refine lv_dup2_11 hx hb dX12_longest_175 rfl rfl ?_
      obtain ⟨h_21, hf⟩ := hf
      refine g_iald F hB 1 rfl h_21 dX12_longest_176 ?_
      refine lv_iconst (v := 1) hx hb dX12_longest_177 (by decide) ?_
      refine lv_iadd hx hb dX12_longest_178 ?_
      obtain ⟨h_22, hf⟩ := hf
      refine g_iast F hB 1 rfl h_22 (wd_LongTrainModel_longest k a_t d_t i_t j_t (upd r_t_places (x4).toNatClampNeg ((r_t_places (x4).toNatClampNeg) + (1 : Int32))) r_t_s r_t_wagons r_t_strengths r_t_worn r_t_foremost r_t_bears r_t_bestPlaces) rfl dX12_longest_179 (fun H locs hB => ?_)
      refine lv_goto (tgt := 29) hx hb dX12_longest_180 (by decide) ?_
      exact hkr_29 _ _ _ _ _ _ _ _ _ _ _ _ _ hf hB (lv_sub hl [1, 2, 0] rfl)

set_option maxRecDepth 100000 in
set_option maxHeartbeats 4000000 in
theorem jt_LongTrainModel_longest_111 {p : Program} {l : Launch} {e : Env} {s : State} {m : MethodId} {below : List Frame} {meth : Method} {c : Code} {A : Nat → Prop} {D : va_G} {k : Nat → ClassId} {a_t : Nat} {d_t : Nat → Nat} {j_t : Nat → Int64} {r_t_s : Nat → Int32}  {Q : Int32 → (Nat → Int32) → (Nat → Int32) → (Nat → Int32) → (Nat → Int32) → (Nat → Int32) → (Nat → Int32) → (Nat → Int32) → (Nat → Int32) → Prop}  {kr_29 : (Int32) → (Int32) → (Nat → Int32) → (Nat → Int32) → (Nat → Int32) → (Nat → Int32) → (Nat → Int32) → (Nat → Int32) → (Nat → Int32) → (Nat → Int32) → Prop} (F : Fx p m c cX12_longest 5 s ([.ref a_t] : List Value).toArray RX12 D k) (hr : meth.sig.returnType = (some .int)) (hlk : meth.locks = false) (hA : ∀ q : Nat, s.heap.size ≤ q → A q) (hkr_29 : ∀ (x1 : Int32) (x2 : Int32) (i_t : Nat → Int32) (r_t_places : Nat → Int32) (r_t_wagons : Nat → Int32) (r_t_strengths : Nat → Int32) (r_t_worn : Nat → Int32) (r_t_foremost : Nat → Int32) (r_t_bears : Nat → Int32) (r_t_bestPlaces : Nat → Int32) (H : Heap) (locs : List Loc) (ls : Array Slot), kr_29 x1 x2 i_t r_t_places r_t_wagons r_t_strengths r_t_worn r_t_foremost r_t_bears r_t_bestPlaces → Bd D A s.heap (wd_LongTrainModel_longest k a_t d_t i_t j_t r_t_places r_t_s r_t_wagons r_t_strengths r_t_worn r_t_foremost r_t_bears r_t_bestPlaces) H locs → lv_has ls 5 [(0, .ref a_t), (1, .int x1), (2, .int x2)] → W p l e { frames := 4, cells := 0, slots := 0, locals := 91 } s m ([.ref a_t] : List Value).toArray below meth c H locs 0 0 (Ei below (fun r w => ∃ (i_t : Nat → Int32), ∃ (r_t_places : Nat → Int32), ∃ (r_t_wagons : Nat → Int32), ∃ (r_t_strengths : Nat → Int32), ∃ (r_t_worn : Nat → Int32), ∃ (r_t_foremost : Nat → Int32), ∃ (r_t_bears : Nat → Int32), ∃ (r_t_bestPlaces : Nat → Int32), w = (wd_LongTrainModel_longest k a_t d_t i_t j_t r_t_places r_t_s r_t_wagons r_t_strengths r_t_worn r_t_foremost r_t_bears r_t_bestPlaces) ∧ Q r i_t r_t_places r_t_wagons r_t_strengths r_t_worn r_t_foremost r_t_bears r_t_bestPlaces) D k A ([.ref a_t] : List Value).toArray s 0 0) (F0 m 29 ls [])) :
    ∀ (i_t : Nat → Int32) (r_t_places : Nat → Int32) (r_t_wagons : Nat → Int32) (r_t_strengths : Nat → Int32) (r_t_worn : Nat → Int32) (r_t_foremost : Nat → Int32) (r_t_bears : Nat → Int32) (r_t_bestPlaces : Nat → Int32) (x1 : Int32) (y0 : Int32) (H : Heap) (locs : List Loc) (ls : Array Slot), j_LongTrainModel_longest_111 i_t r_t_places r_t_s r_t_wagons r_t_strengths r_t_worn r_t_foremost r_t_bears r_t_bestPlaces x1 y0 kr_29 → Bd D A s.heap (wd_LongTrainModel_longest k a_t d_t i_t j_t r_t_places r_t_s r_t_wagons r_t_strengths r_t_worn r_t_foremost r_t_bears r_t_bestPlaces) H locs → lv_has ls 5 [(0, .ref a_t), (1, .int x1)] → W p l e { frames := 4, cells := 0, slots := 0, locals := 91 } s m ([.ref a_t] : List Value).toArray below meth c H locs 0 0 (Ei below (fun r w => ∃ (i_t : Nat → Int32), ∃ (r_t_places : Nat → Int32), ∃ (r_t_wagons : Nat → Int32), ∃ (r_t_strengths : Nat → Int32), ∃ (r_t_worn : Nat → Int32), ∃ (r_t_foremost : Nat → Int32), ∃ (r_t_bears : Nat → Int32), ∃ (r_t_bestPlaces : Nat → Int32), w = (wd_LongTrainModel_longest k a_t d_t i_t j_t r_t_places r_t_s r_t_wagons r_t_strengths r_t_worn r_t_foremost r_t_bears r_t_bestPlaces) ∧ Q r i_t r_t_places r_t_wagons r_t_strengths r_t_worn r_t_foremost r_t_bears r_t_bestPlaces) D k A ([.ref a_t] : List Value).toArray s 0 0) (F0 m 111 ls [.int y0]) := by
  have hx := F.x
  have hb := F.b
  intro i_t r_t_places r_t_wagons r_t_strengths r_t_worn r_t_foremost r_t_bears r_t_bestPlaces x1 y0 H locs ls hf hB hl
  unfold j_LongTrainModel_longest_111 at hf
  refine lv_iconst (v := 1) hx hb dX12_longest_111 (by decide) ?_
  refine lv_isub hx hb dX12_longest_112 ?_
  refine lv_istore (lv' := [(4, .int (y0 - (1 : Int32))), (0, .ref a_t), (1, .int x1)]) hx hb dX12_longest_113 hl (by decide) rfl (fun ls hl => ?_)
  obtain ⟨n_25, hf⟩ := hf
  refine lt_LongTrainModel_longest_115 F hr hlk hA (fun x4_16 r_t_places_17 H locs ls hf hB hl => ?_) n_25 _ _ _ _ _ hf hB (lv_sub hl [1, 2, 0] rfl)
  exact jt_LongTrainModel_longest_154 F hr hlk hA hkr_29 _ _ _ _ _ _ _ _ _ _ _ _ _ hf hB (lv_sub hl [0, 1, 2] rfl)

set_option maxRecDepth 100000 in
set_option maxHeartbeats 4000000 in
theorem jt_LongTrainModel_longest_95 {p : Program} {l : Launch} {e : Env} {s : State} {m : MethodId} {below : List Frame} {meth : Method} {c : Code} {A : Nat → Prop} {D : va_G} {k : Nat → ClassId} {a_t : Nat} {d_t : Nat → Nat} {j_t : Nat → Int64} {r_t_s : Nat → Int32}  {Q : Int32 → (Nat → Int32) → (Nat → Int32) → (Nat → Int32) → (Nat → Int32) → (Nat → Int32) → (Nat → Int32) → (Nat → Int32) → (Nat → Int32) → Prop}  {kr_29 : (Int32) → (Int32) → (Nat → Int32) → (Nat → Int32) → (Nat → Int32) → (Nat → Int32) → (Nat → Int32) → (Nat → Int32) → (Nat → Int32) → (Nat → Int32) → Prop} (F : Fx p m c cX12_longest 5 s ([.ref a_t] : List Value).toArray RX12 D k) (hr : meth.sig.returnType = (some .int)) (hlk : meth.locks = false) (hA : ∀ q : Nat, s.heap.size ≤ q → A q) (hkr_29 : ∀ (x1 : Int32) (x2 : Int32) (i_t : Nat → Int32) (r_t_places : Nat → Int32) (r_t_wagons : Nat → Int32) (r_t_strengths : Nat → Int32) (r_t_worn : Nat → Int32) (r_t_foremost : Nat → Int32) (r_t_bears : Nat → Int32) (r_t_bestPlaces : Nat → Int32) (H : Heap) (locs : List Loc) (ls : Array Slot), kr_29 x1 x2 i_t r_t_places r_t_wagons r_t_strengths r_t_worn r_t_foremost r_t_bears r_t_bestPlaces → Bd D A s.heap (wd_LongTrainModel_longest k a_t d_t i_t j_t r_t_places r_t_s r_t_wagons r_t_strengths r_t_worn r_t_foremost r_t_bears r_t_bestPlaces) H locs → lv_has ls 5 [(0, .ref a_t), (1, .int x1), (2, .int x2)] → W p l e { frames := 4, cells := 0, slots := 0, locals := 91 } s m ([.ref a_t] : List Value).toArray below meth c H locs 0 0 (Ei below (fun r w => ∃ (i_t : Nat → Int32), ∃ (r_t_places : Nat → Int32), ∃ (r_t_wagons : Nat → Int32), ∃ (r_t_strengths : Nat → Int32), ∃ (r_t_worn : Nat → Int32), ∃ (r_t_foremost : Nat → Int32), ∃ (r_t_bears : Nat → Int32), ∃ (r_t_bestPlaces : Nat → Int32), w = (wd_LongTrainModel_longest k a_t d_t i_t j_t r_t_places r_t_s r_t_wagons r_t_strengths r_t_worn r_t_foremost r_t_bears r_t_bestPlaces) ∧ Q r i_t r_t_places r_t_wagons r_t_strengths r_t_worn r_t_foremost r_t_bears r_t_bestPlaces) D k A ([.ref a_t] : List Value).toArray s 0 0) (F0 m 29 ls [])) :
    ∀ (i_t : Nat → Int32) (r_t_places : Nat → Int32) (r_t_wagons : Nat → Int32) (r_t_strengths : Nat → Int32) (r_t_worn : Nat → Int32) (r_t_foremost : Nat → Int32) (r_t_bears : Nat → Int32) (r_t_bestPlaces : Nat → Int32) (x1 : Int32) (H : Heap) (locs : List Loc) (ls : Array Slot), j_LongTrainModel_longest_95 i_t r_t_places r_t_s r_t_wagons r_t_strengths r_t_worn r_t_foremost r_t_bears r_t_bestPlaces x1 kr_29 → Bd D A s.heap (wd_LongTrainModel_longest k a_t d_t i_t j_t r_t_places r_t_s r_t_wagons r_t_strengths r_t_worn r_t_foremost r_t_bears r_t_bestPlaces) H locs → lv_has ls 5 [(0, .ref a_t), (1, .int x1)] → W p l e { frames := 4, cells := 0, slots := 0, locals := 91 } s m ([.ref a_t] : List Value).toArray below meth c H locs 0 0 (Ei below (fun r w => ∃ (i_t : Nat → Int32), ∃ (r_t_places : Nat → Int32), ∃ (r_t_wagons : Nat → Int32), ∃ (r_t_strengths : Nat → Int32), ∃ (r_t_worn : Nat → Int32), ∃ (r_t_foremost : Nat → Int32), ∃ (r_t_bears : Nat → Int32), ∃ (r_t_bestPlaces : Nat → Int32), w = (wd_LongTrainModel_longest k a_t d_t i_t j_t r_t_places r_t_s r_t_wagons r_t_strengths r_t_worn r_t_foremost r_t_bears r_t_bestPlaces) ∧ Q r i_t r_t_places r_t_wagons r_t_strengths r_t_worn r_t_foremost r_t_bears r_t_bestPlaces) D k A ([.ref a_t] : List Value).toArray s 0 0) (F0 m 95 ls []) := by
  have hx := F.x
  have hb := F.b
  intro i_t r_t_places r_t_wagons r_t_strengths r_t_worn r_t_foremost r_t_bears r_t_bestPlaces x1 H locs ls hf hB hl
  unfold j_LongTrainModel_longest_95 at hf
  refine lv_aload_n hx hb dX12_longest_95 rfl (lv_at hl 0 rfl) ?_
  refine g_get (w := .int (i_t 32)) F hB 0 rfl fl_RX12_326 rfl dX12_longest_96 ?_
  refine lv_iconst (v := 4) hx hb dX12_longest_99 (by decide) ?_
  refine lv_icmp_ge (tgt := 110) hx hb dX12_longest_100 (by decide) (fun c_26 => ?_) (fun c_26 => ?_)
  · replace hf := hf.1 c_26
    refine lv_iconst (v := 4) hx hb dX12_longest_110 (by decide) ?_
    exact jt_LongTrainModel_longest_111 F hr hlk hA hkr_29 _ _ _ _ _ _ _ _ _ _ _ _ _ hf hB (lv_sub hl [0, 1] rfl)
  · replace hf := hf.2 c_26
    refine lv_aload_n hx hb dX12_longest_103 rfl (lv_at hl 0 rfl) ?_
    refine g_get (w := .int (i_t 32)) F hB 0 rfl fl_RX12_326 rfl dX12_longest_104 ?_
    refine lv_goto (tgt := 111) hx hb dX12_longest_107 (by decide) ?_
    exact jt_LongTrainModel_longest_111 F hr hlk hA hkr_29 _ _ _ _ _ _ _ _ _ _ _ _ _ hf hB (lv_sub hl [0, 1] rfl)

set_option maxRecDepth 100000 in
set_option maxHeartbeats 4000000 in
theorem bt_LongTrainModel_longest_69 {p : Program} {l : Launch} {e : Env} {s : State} {m : MethodId} {below : List Frame} {meth : Method} {c : Code} {A : Nat → Prop} {D : va_G} {k : Nat → ClassId} {a_t : Nat} {d_t : Nat → Nat} {i_t : Nat → Int32} {j_t : Nat → Int64} {r_t_places : Nat → Int32} {r_t_s : Nat → Int32} {r_t_wagons : Nat → Int32} {r_t_strengths : Nat → Int32} {r_t_worn : Nat → Int32} {r_t_foremost : Nat → Int32} {r_t_bears : Nat → Int32}  {Q : Int32 → (Nat → Int32) → (Nat → Int32) → (Nat → Int32) → (Nat → Int32) → (Nat → Int32) → (Nat → Int32) → (Nat → Int32) → (Nat → Int32) → Prop}  {x1 : Int32} {kx_69 : (Nat → Int32) → Prop} {kr_69 : (Int32) → (Nat → Int32) → Prop} (F : Fx p m c cX12_longest 5 s ([.ref a_t] : List Value).toArray RX12 D k) (hr : meth.sig.returnType = (some .int)) (hlk : meth.locks = false) (hA : ∀ q : Nat, s.heap.size ≤ q → A q) (hkx_69 : ∀ (r_t_bestPlaces : Nat → Int32) (H : Heap) (locs : List Loc) (ls : Array Slot), kx_69 r_t_bestPlaces → Bd D A s.heap (wd_LongTrainModel_longest k a_t d_t i_t j_t r_t_places r_t_s r_t_wagons r_t_strengths r_t_worn r_t_foremost r_t_bears r_t_bestPlaces) H locs → lv_has ls 5 [(0, .ref a_t), (1, .int x1)] → W p l e { frames := 4, cells := 0, slots := 0, locals := 91 } s m ([.ref a_t] : List Value).toArray below meth c H locs 0 0 (Ei below (fun r w => ∃ (i_t : Nat → Int32), ∃ (r_t_places : Nat → Int32), ∃ (r_t_wagons : Nat → Int32), ∃ (r_t_strengths : Nat → Int32), ∃ (r_t_worn : Nat → Int32), ∃ (r_t_foremost : Nat → Int32), ∃ (r_t_bears : Nat → Int32), ∃ (r_t_bestPlaces : Nat → Int32), w = (wd_LongTrainModel_longest k a_t d_t i_t j_t r_t_places r_t_s r_t_wagons r_t_strengths r_t_worn r_t_foremost r_t_bears r_t_bestPlaces) ∧ Q r i_t r_t_places r_t_wagons r_t_strengths r_t_worn r_t_foremost r_t_bears r_t_bestPlaces) D k A ([.ref a_t] : List Value).toArray s 0 0) (F0 m 95 ls [])) (hkr_69 : ∀ (x4 : Int32) (r_t_bestPlaces : Nat → Int32) (H : Heap) (locs : List Loc) (ls : Array Slot), kr_69 x4 r_t_bestPlaces → Bd D A s.heap (wd_LongTrainModel_longest k a_t d_t i_t j_t r_t_places r_t_s r_t_wagons r_t_strengths r_t_worn r_t_foremost r_t_bears r_t_bestPlaces) H locs → lv_has ls 5 [(0, .ref a_t), (1, .int x1), (4, .int x4)] → W p l e { frames := 4, cells := 0, slots := 0, locals := 91 } s m ([.ref a_t] : List Value).toArray below meth c H locs 0 0 (Ei below (fun r w => ∃ (i_t : Nat → Int32), ∃ (r_t_places : Nat → Int32), ∃ (r_t_wagons : Nat → Int32), ∃ (r_t_strengths : Nat → Int32), ∃ (r_t_worn : Nat → Int32), ∃ (r_t_foremost : Nat → Int32), ∃ (r_t_bears : Nat → Int32), ∃ (r_t_bestPlaces : Nat → Int32), w = (wd_LongTrainModel_longest k a_t d_t i_t j_t r_t_places r_t_s r_t_wagons r_t_strengths r_t_worn r_t_foremost r_t_bears r_t_bestPlaces) ∧ Q r i_t r_t_places r_t_wagons r_t_strengths r_t_worn r_t_foremost r_t_bears r_t_bestPlaces) D k A ([.ref a_t] : List Value).toArray s 0 0) (F0 m 69 ls [])) :
    ∀ (x4 : Int32) (r_t_bestPlaces : Nat → Int32) (H : Heap) (locs : List Loc) (ls : Array Slot), b_LongTrainModel_longest_69 r_t_places kx_69 kr_69 x4 r_t_bestPlaces → Bd D A s.heap (wd_LongTrainModel_longest k a_t d_t i_t j_t r_t_places r_t_s r_t_wagons r_t_strengths r_t_worn r_t_foremost r_t_bears r_t_bestPlaces) H locs → lv_has ls 5 [(0, .ref a_t), (1, .int x1), (4, .int x4)] → W p l e { frames := 4, cells := 0, slots := 0, locals := 91 } s m ([.ref a_t] : List Value).toArray below meth c H locs 0 0 (Ei below (fun r w => ∃ (i_t : Nat → Int32), ∃ (r_t_places : Nat → Int32), ∃ (r_t_wagons : Nat → Int32), ∃ (r_t_strengths : Nat → Int32), ∃ (r_t_worn : Nat → Int32), ∃ (r_t_foremost : Nat → Int32), ∃ (r_t_bears : Nat → Int32), ∃ (r_t_bestPlaces : Nat → Int32), w = (wd_LongTrainModel_longest k a_t d_t i_t j_t r_t_places r_t_s r_t_wagons r_t_strengths r_t_worn r_t_foremost r_t_bears r_t_bestPlaces) ∧ Q r i_t r_t_places r_t_wagons r_t_strengths r_t_worn r_t_foremost r_t_bears r_t_bestPlaces) D k A ([.ref a_t] : List Value).toArray s 0 0) (F0 m 69 ls []) := by
  have hx := F.x
  have hb := F.b
  intro x4 r_t_bestPlaces H locs ls hf hB hl
  unfold b_LongTrainModel_longest_69 at hf
  refine lv_iload hx hb dX12_longest_69 (lv_at hl 2 rfl) ?_
  refine lv_iconst (v := 4) hx hb dX12_longest_71 (by decide) ?_
  refine lv_icmp_ge (tgt := 95) hx hb dX12_longest_72 (by decide) (fun c_29 => ?_) (fun c_29 => ?_)
  · replace hf := hf.1 c_29
    exact hkx_69 _ _ _ _ hf hB (lv_sub hl [0, 1] rfl)
  · replace hf := hf.2 c_29
    refine lv_aload_n hx hb dX12_longest_75 rfl (lv_at hl 0 rfl) ?_
    refine g_get (w := .ref (d_t 31)) F hB 0 rfl fl_RX12_71 rfl dX12_longest_76 ?_
    refine lv_iload hx hb dX12_longest_79 (lv_at hl 2 rfl) ?_
    refine lv_aload_n hx hb dX12_longest_81 rfl (lv_at hl 0 rfl) ?_
    refine g_get (w := .ref (d_t 30)) F hB 0 rfl fl_RX12_68 rfl dX12_longest_82 ?_
    refine lv_iload hx hb dX12_longest_85 (lv_at hl 2 rfl) ?_
    obtain ⟨h_27, hf⟩ := hf
    refine g_iald F hB 1 rfl h_27 dX12_longest_87 ?_
    obtain ⟨h_28, hf⟩ := hf
    refine g_iast F hB 8 rfl h_28 (wd_LongTrainModel_longest k a_t d_t i_t j_t r_t_places r_t_s r_t_wagons r_t_strengths r_t_worn r_t_foremost r_t_bears (upd r_t_bestPlaces (x4).toNatClampNeg (r_t_places (x4).toNatClampNeg))) rfl dX12_longest_88 (fun H locs hB => ?_)
    refine lv_iinc (v := (x4 + 1)) (lv' := [(4, .int (x4 + 1)), (0, .ref a_t), (1, .int x1)]) (k := 2) hx hb dX12_longest_89 hl rfl rfl (by decide) rfl (fun ls hl => ?_)
    refine lv_goto (tgt := 69) hx hb dX12_longest_92 (by decide) ?_
    exact hkr_69 _ _ _ _ _ hf hB (lv_sub hl [1, 2, 0] rfl)

set_option maxRecDepth 100000 in
set_option maxHeartbeats 4000000 in
theorem lt_LongTrainModel_longest_69 {p : Program} {l : Launch} {e : Env} {s : State} {m : MethodId} {below : List Frame} {meth : Method} {c : Code} {A : Nat → Prop} {D : va_G} {k : Nat → ClassId} {a_t : Nat} {d_t : Nat → Nat} {i_t : Nat → Int32} {j_t : Nat → Int64} {r_t_places : Nat → Int32} {r_t_s : Nat → Int32} {r_t_wagons : Nat → Int32} {r_t_strengths : Nat → Int32} {r_t_worn : Nat → Int32} {r_t_foremost : Nat → Int32} {r_t_bears : Nat → Int32}  {Q : Int32 → (Nat → Int32) → (Nat → Int32) → (Nat → Int32) → (Nat → Int32) → (Nat → Int32) → (Nat → Int32) → (Nat → Int32) → (Nat → Int32) → Prop}  {x1 : Int32} {kx_69 : (Nat → Int32) → Prop} (F : Fx p m c cX12_longest 5 s ([.ref a_t] : List Value).toArray RX12 D k) (hr : meth.sig.returnType = (some .int)) (hlk : meth.locks = false) (hA : ∀ q : Nat, s.heap.size ≤ q → A q) (hkx_69 : ∀ (r_t_bestPlaces : Nat → Int32) (H : Heap) (locs : List Loc) (ls : Array Slot), kx_69 r_t_bestPlaces → Bd D A s.heap (wd_LongTrainModel_longest k a_t d_t i_t j_t r_t_places r_t_s r_t_wagons r_t_strengths r_t_worn r_t_foremost r_t_bears r_t_bestPlaces) H locs → lv_has ls 5 [(0, .ref a_t), (1, .int x1)] → W p l e { frames := 4, cells := 0, slots := 0, locals := 91 } s m ([.ref a_t] : List Value).toArray below meth c H locs 0 0 (Ei below (fun r w => ∃ (i_t : Nat → Int32), ∃ (r_t_places : Nat → Int32), ∃ (r_t_wagons : Nat → Int32), ∃ (r_t_strengths : Nat → Int32), ∃ (r_t_worn : Nat → Int32), ∃ (r_t_foremost : Nat → Int32), ∃ (r_t_bears : Nat → Int32), ∃ (r_t_bestPlaces : Nat → Int32), w = (wd_LongTrainModel_longest k a_t d_t i_t j_t r_t_places r_t_s r_t_wagons r_t_strengths r_t_worn r_t_foremost r_t_bears r_t_bestPlaces) ∧ Q r i_t r_t_places r_t_wagons r_t_strengths r_t_worn r_t_foremost r_t_bears r_t_bestPlaces) D k A ([.ref a_t] : List Value).toArray s 0 0) (F0 m 95 ls [])) :
    ∀ n : Nat, ∀ (x4 : Int32) (r_t_bestPlaces : Nat → Int32) (H : Heap) (locs : List Loc) (ls : Array Slot), lp_LongTrainModel_longest_69 r_t_places kx_69 n x4 r_t_bestPlaces → Bd D A s.heap (wd_LongTrainModel_longest k a_t d_t i_t j_t r_t_places r_t_s r_t_wagons r_t_strengths r_t_worn r_t_foremost r_t_bears r_t_bestPlaces) H locs → lv_has ls 5 [(0, .ref a_t), (1, .int x1), (4, .int x4)] → W p l e { frames := 4, cells := 0, slots := 0, locals := 91 } s m ([.ref a_t] : List Value).toArray below meth c H locs 0 0 (Ei below (fun r w => ∃ (i_t : Nat → Int32), ∃ (r_t_places : Nat → Int32), ∃ (r_t_wagons : Nat → Int32), ∃ (r_t_strengths : Nat → Int32), ∃ (r_t_worn : Nat → Int32), ∃ (r_t_foremost : Nat → Int32), ∃ (r_t_bears : Nat → Int32), ∃ (r_t_bestPlaces : Nat → Int32), w = (wd_LongTrainModel_longest k a_t d_t i_t j_t r_t_places r_t_s r_t_wagons r_t_strengths r_t_worn r_t_foremost r_t_bears r_t_bestPlaces) ∧ Q r i_t r_t_places r_t_wagons r_t_strengths r_t_worn r_t_foremost r_t_bears r_t_bestPlaces) D k A ([.ref a_t] : List Value).toArray s 0 0) (F0 m 69 ls []) := by
  intro n
  induction n with
  | zero => intro x4 r_t_bestPlaces H locs ls hf; exact absurd hf (fun h => h)
  | succ n ih => exact bt_LongTrainModel_longest_69 F hr hlk hA hkx_69 ih

set_option maxRecDepth 100000 in
set_option maxHeartbeats 4000000 in
theorem jt_LongTrainModel_longest_63 {p : Program} {l : Launch} {e : Env} {s : State} {m : MethodId} {below : List Frame} {meth : Method} {c : Code} {A : Nat → Prop} {D : va_G} {k : Nat → ClassId} {a_t : Nat} {d_t : Nat → Nat} {j_t : Nat → Int64} {r_t_s : Nat → Int32}  {Q : Int32 → (Nat → Int32) → (Nat → Int32) → (Nat → Int32) → (Nat → Int32) → (Nat → Int32) → (Nat → Int32) → (Nat → Int32) → (Nat → Int32) → Prop}  {kr_29 : (Int32) → (Int32) → (Nat → Int32) → (Nat → Int32) → (Nat → Int32) → (Nat → Int32) → (Nat → Int32) → (Nat → Int32) → (Nat → Int32) → (Nat → Int32) → Prop} (F : Fx p m c cX12_longest 5 s ([.ref a_t] : List Value).toArray RX12 D k) (hr : meth.sig.returnType = (some .int)) (hlk : meth.locks = false) (hA : ∀ q : Nat, s.heap.size ≤ q → A q) (hkr_29 : ∀ (x1 : Int32) (x2 : Int32) (i_t : Nat → Int32) (r_t_places : Nat → Int32) (r_t_wagons : Nat → Int32) (r_t_strengths : Nat → Int32) (r_t_worn : Nat → Int32) (r_t_foremost : Nat → Int32) (r_t_bears : Nat → Int32) (r_t_bestPlaces : Nat → Int32) (H : Heap) (locs : List Loc) (ls : Array Slot), kr_29 x1 x2 i_t r_t_places r_t_wagons r_t_strengths r_t_worn r_t_foremost r_t_bears r_t_bestPlaces → Bd D A s.heap (wd_LongTrainModel_longest k a_t d_t i_t j_t r_t_places r_t_s r_t_wagons r_t_strengths r_t_worn r_t_foremost r_t_bears r_t_bestPlaces) H locs → lv_has ls 5 [(0, .ref a_t), (1, .int x1), (2, .int x2)] → W p l e { frames := 4, cells := 0, slots := 0, locals := 91 } s m ([.ref a_t] : List Value).toArray below meth c H locs 0 0 (Ei below (fun r w => ∃ (i_t : Nat → Int32), ∃ (r_t_places : Nat → Int32), ∃ (r_t_wagons : Nat → Int32), ∃ (r_t_strengths : Nat → Int32), ∃ (r_t_worn : Nat → Int32), ∃ (r_t_foremost : Nat → Int32), ∃ (r_t_bears : Nat → Int32), ∃ (r_t_bestPlaces : Nat → Int32), w = (wd_LongTrainModel_longest k a_t d_t i_t j_t r_t_places r_t_s r_t_wagons r_t_strengths r_t_worn r_t_foremost r_t_bears r_t_bestPlaces) ∧ Q r i_t r_t_places r_t_wagons r_t_strengths r_t_worn r_t_foremost r_t_bears r_t_bestPlaces) D k A ([.ref a_t] : List Value).toArray s 0 0) (F0 m 29 ls [])) :
    ∀ (i_t : Nat → Int32) (r_t_places : Nat → Int32) (r_t_wagons : Nat → Int32) (r_t_strengths : Nat → Int32) (r_t_worn : Nat → Int32) (r_t_foremost : Nat → Int32) (r_t_bears : Nat → Int32) (r_t_bestPlaces : Nat → Int32) (x1 : Int32) (y0 : Int32) (H : Heap) (locs : List Loc) (ls : Array Slot), j_LongTrainModel_longest_63 i_t r_t_places r_t_s r_t_wagons r_t_strengths r_t_worn r_t_foremost r_t_bears r_t_bestPlaces x1 y0 kr_29 → Bd D A s.heap (wd_LongTrainModel_longest k a_t d_t i_t j_t r_t_places r_t_s r_t_wagons r_t_strengths r_t_worn r_t_foremost r_t_bears r_t_bestPlaces) H locs → lv_has ls 5 [(0, .ref a_t), (1, .int x1)] → W p l e { frames := 4, cells := 0, slots := 0, locals := 91 } s m ([.ref a_t] : List Value).toArray below meth c H locs 0 0 (Ei below (fun r w => ∃ (i_t : Nat → Int32), ∃ (r_t_places : Nat → Int32), ∃ (r_t_wagons : Nat → Int32), ∃ (r_t_strengths : Nat → Int32), ∃ (r_t_worn : Nat → Int32), ∃ (r_t_foremost : Nat → Int32), ∃ (r_t_bears : Nat → Int32), ∃ (r_t_bestPlaces : Nat → Int32), w = (wd_LongTrainModel_longest k a_t d_t i_t j_t r_t_places r_t_s r_t_wagons r_t_strengths r_t_worn r_t_foremost r_t_bears r_t_bestPlaces) ∧ Q r i_t r_t_places r_t_wagons r_t_strengths r_t_worn r_t_foremost r_t_bears r_t_bestPlaces) D k A ([.ref a_t] : List Value).toArray s 0 0) (F0 m 63 ls [.int y0, .ref a_t]) := by
  have hx := F.x
  have hb := F.b
  intro i_t r_t_places r_t_wagons r_t_strengths r_t_worn r_t_foremost r_t_bears r_t_bestPlaces x1 y0 H locs ls hf hB hl
  unfold j_LongTrainModel_longest_63 at hf
  refine g_puti F hB 0 rfl fl_RX12_342 rfl (wd_LongTrainModel_longest k a_t d_t (upd i_t 33 y0) j_t r_t_places r_t_s r_t_wagons r_t_strengths r_t_worn r_t_foremost r_t_bears r_t_bestPlaces) rfl dX12_longest_63 (fun H locs hB => ?_)
  refine lv_iconst (v := 0) hx hb dX12_longest_66 (by decide) ?_
  refine lv_istore (lv' := [(4, .int (0 : Int32)), (0, .ref a_t), (1, .int x1)]) hx hb dX12_longest_67 hl (by decide) rfl (fun ls hl => ?_)
  obtain ⟨n_31, hf⟩ := hf
  refine lt_LongTrainModel_longest_69 F hr hlk hA (fun r_t_bestPlaces_30 H locs ls hf hB hl => ?_) n_31 _ _ _ _ _ hf hB (lv_sub hl [1, 2, 0] rfl)
  exact jt_LongTrainModel_longest_95 F hr hlk hA hkr_29 _ _ _ _ _ _ _ _ _ _ _ _ hf hB (lv_sub hl [0, 1] rfl)

set_option maxRecDepth 100000 in
set_option maxHeartbeats 4000000 in
theorem bt_LongTrainModel_longest_29 {p : Program} {l : Launch} {e : Env} {s : State} {m : MethodId} {below : List Frame} {meth : Method} {c : Code} {A : Nat → Prop} {D : va_G} {k : Nat → ClassId} {a_t : Nat} {d_t : Nat → Nat} {j_t : Nat → Int64} {r_t_s : Nat → Int32}  {Q : Int32 → (Nat → Int32) → (Nat → Int32) → (Nat → Int32) → (Nat → Int32) → (Nat → Int32) → (Nat → Int32) → (Nat → Int32) → (Nat → Int32) → Prop}  {kx_29 : (Int32) → (Nat → Int32) → (Nat → Int32) → (Nat → Int32) → (Nat → Int32) → (Nat → Int32) → (Nat → Int32) → (Nat → Int32) → (Nat → Int32) → Prop} {kr_29 : (Int32) → (Int32) → (Nat → Int32) → (Nat → Int32) → (Nat → Int32) → (Nat → Int32) → (Nat → Int32) → (Nat → Int32) → (Nat → Int32) → (Nat → Int32) → Prop} (F : Fx p m c cX12_longest 5 s ([.ref a_t] : List Value).toArray RX12 D k) (hr : meth.sig.returnType = (some .int)) (hlk : meth.locks = false) (hA : ∀ q : Nat, s.heap.size ≤ q → A q) (hkx_29 : ∀ (x1 : Int32) (i_t : Nat → Int32) (r_t_places : Nat → Int32) (r_t_wagons : Nat → Int32) (r_t_strengths : Nat → Int32) (r_t_worn : Nat → Int32) (r_t_foremost : Nat → Int32) (r_t_bears : Nat → Int32) (r_t_bestPlaces : Nat → Int32) (H : Heap) (locs : List Loc) (ls : Array Slot), kx_29 x1 i_t r_t_places r_t_wagons r_t_strengths r_t_worn r_t_foremost r_t_bears r_t_bestPlaces → Bd D A s.heap (wd_LongTrainModel_longest k a_t d_t i_t j_t r_t_places r_t_s r_t_wagons r_t_strengths r_t_worn r_t_foremost r_t_bears r_t_bestPlaces) H locs → lv_has ls 5 [(1, .int x1)] → W p l e { frames := 4, cells := 0, slots := 0, locals := 91 } s m ([.ref a_t] : List Value).toArray below meth c H locs 0 0 (Ei below (fun r w => ∃ (i_t : Nat → Int32), ∃ (r_t_places : Nat → Int32), ∃ (r_t_wagons : Nat → Int32), ∃ (r_t_strengths : Nat → Int32), ∃ (r_t_worn : Nat → Int32), ∃ (r_t_foremost : Nat → Int32), ∃ (r_t_bears : Nat → Int32), ∃ (r_t_bestPlaces : Nat → Int32), w = (wd_LongTrainModel_longest k a_t d_t i_t j_t r_t_places r_t_s r_t_wagons r_t_strengths r_t_worn r_t_foremost r_t_bears r_t_bestPlaces) ∧ Q r i_t r_t_places r_t_wagons r_t_strengths r_t_worn r_t_foremost r_t_bears r_t_bestPlaces) D k A ([.ref a_t] : List Value).toArray s 0 0) (F0 m 183 ls [])) (hkr_29 : ∀ (x1 : Int32) (x2 : Int32) (i_t : Nat → Int32) (r_t_places : Nat → Int32) (r_t_wagons : Nat → Int32) (r_t_strengths : Nat → Int32) (r_t_worn : Nat → Int32) (r_t_foremost : Nat → Int32) (r_t_bears : Nat → Int32) (r_t_bestPlaces : Nat → Int32) (H : Heap) (locs : List Loc) (ls : Array Slot), kr_29 x1 x2 i_t r_t_places r_t_wagons r_t_strengths r_t_worn r_t_foremost r_t_bears r_t_bestPlaces → Bd D A s.heap (wd_LongTrainModel_longest k a_t d_t i_t j_t r_t_places r_t_s r_t_wagons r_t_strengths r_t_worn r_t_foremost r_t_bears r_t_bestPlaces) H locs → lv_has ls 5 [(0, .ref a_t), (1, .int x1), (2, .int x2)] → W p l e { frames := 4, cells := 0, slots := 0, locals := 91 } s m ([.ref a_t] : List Value).toArray below meth c H locs 0 0 (Ei below (fun r w => ∃ (i_t : Nat → Int32), ∃ (r_t_places : Nat → Int32), ∃ (r_t_wagons : Nat → Int32), ∃ (r_t_strengths : Nat → Int32), ∃ (r_t_worn : Nat → Int32), ∃ (r_t_foremost : Nat → Int32), ∃ (r_t_bears : Nat → Int32), ∃ (r_t_bestPlaces : Nat → Int32), w = (wd_LongTrainModel_longest k a_t d_t i_t j_t r_t_places r_t_s r_t_wagons r_t_strengths r_t_worn r_t_foremost r_t_bears r_t_bestPlaces) ∧ Q r i_t r_t_places r_t_wagons r_t_strengths r_t_worn r_t_foremost r_t_bears r_t_bestPlaces) D k A ([.ref a_t] : List Value).toArray s 0 0) (F0 m 29 ls [])) :
    ∀ (x1 : Int32) (x2 : Int32) (i_t : Nat → Int32) (r_t_places : Nat → Int32) (r_t_wagons : Nat → Int32) (r_t_strengths : Nat → Int32) (r_t_worn : Nat → Int32) (r_t_foremost : Nat → Int32) (r_t_bears : Nat → Int32) (r_t_bestPlaces : Nat → Int32) (H : Heap) (locs : List Loc) (ls : Array Slot), b_LongTrainModel_longest_29 r_t_s kx_29 kr_29 x1 x2 i_t r_t_places r_t_wagons r_t_strengths r_t_worn r_t_foremost r_t_bears r_t_bestPlaces → Bd D A s.heap (wd_LongTrainModel_longest k a_t d_t i_t j_t r_t_places r_t_s r_t_wagons r_t_strengths r_t_worn r_t_foremost r_t_bears r_t_bestPlaces) H locs → lv_has ls 5 [(0, .ref a_t), (1, .int x1), (2, .int x2)] → W p l e { frames := 4, cells := 0, slots := 0, locals := 91 } s m ([.ref a_t] : List Value).toArray below meth c H locs 0 0 (Ei below (fun r w => ∃ (i_t : Nat → Int32), ∃ (r_t_places : Nat → Int32), ∃ (r_t_wagons : Nat → Int32), ∃ (r_t_strengths : Nat → Int32), ∃ (r_t_worn : Nat → Int32), ∃ (r_t_foremost : Nat → Int32), ∃ (r_t_bears : Nat → Int32), ∃ (r_t_bestPlaces : Nat → Int32), w = (wd_LongTrainModel_longest k a_t d_t i_t j_t r_t_places r_t_s r_t_wagons r_t_strengths r_t_worn r_t_foremost r_t_bears r_t_bestPlaces) ∧ Q r i_t r_t_places r_t_wagons r_t_strengths r_t_worn r_t_foremost r_t_bears r_t_bestPlaces) D k A ([.ref a_t] : List Value).toArray s 0 0) (F0 m 29 ls []) := by
  have hx := F.x
  have hb := F.b
  intro x1 x2 i_t r_t_places r_t_wagons r_t_strengths r_t_worn r_t_foremost r_t_bears r_t_bestPlaces H locs ls hf hB hl
  unfold b_LongTrainModel_longest_29 at hf
  refine lv_iload_n hx hb dX12_longest_29 rfl (lv_at hl 2 rfl) ?_
  refine lv_if_eq (tgt := 183) hx hb dX12_longest_30 (by decide) (fun c_34 => ?_) (fun c_34 => ?_)
  · replace hf := hf.1 c_34
    exact hkx_29 _ _ _ _ _ _ _ _ _ _ _ _ hf hB (lv_sub hl [1] rfl)
  · replace hf := hf.2 c_34
    refine lv_aload_n hx hb dX12_longest_33 rfl (lv_at hl 0 rfl) ?_
    refine lv_iconst (v := 3) hx hb dX12_longest_34 (by decide) ?_
    refine k_vi (wr := [((d_t 31), ai k 4 r_t_bestPlaces)]) (rest := []) F hA hB (c_LongTrainModel_livesBy l D k a_t d_t i_t j_t r_t_s r_t_wagons r_t_strengths r_t_worn r_t_foremost r_t_bears r_t_places (3 : Int32) _  hf) ml_RX12_339 mv_yX12_livesBy [0, 2, 3, 4, 5, 6, 7, 1] [8] rfl rfl (by decide) (by decide) (by decide) 0 rfl rfl rfl hl.1 rfl (Nat.le_of_ble_eq_true rfl) ⟨Nat.le_of_ble_eq_true rfl, Nat.le_of_ble_eq_true rfl⟩ ⟨Nat.le_of_ble_eq_true rfl, Nat.le_of_ble_eq_true rfl⟩ dX12_longest_35 (fun z_10 w1 H locs hq hB => ?_)
    obtain ⟨i_t_4, r_t_wagons_5, r_t_strengths_6, r_t_worn_7, r_t_foremost_8, r_t_bears_9, rfl, hf⟩ := hq
    replace hB : Bd D A s.heap (wd_LongTrainModel_longest k a_t d_t i_t_4 j_t r_t_places r_t_s r_t_wagons_5 r_t_strengths_6 r_t_worn_7 r_t_foremost_8 r_t_bears_9 r_t_bestPlaces) H locs := hB.sub [1, 8, 2, 3, 4, 5, 6, 7, 0] (by decide) rfl
    refine lv_istore_n (lv' := [(3, .int z_10), (0, .ref a_t), (1, .int x1), (2, .int x2)]) hx hb dX12_longest_38 rfl hl (by decide) rfl (fun ls hl => ?_)
    refine lv_iload_n hx hb dX12_longest_39 rfl (lv_at hl 0 rfl) ?_
    refine lv_iload_n hx hb dX12_longest_40 rfl (lv_at hl 2 rfl) ?_
    refine lv_icmp_le (tgt := 95) hx hb dX12_longest_41 (by decide) (fun c_33 => ?_) (fun c_33 => ?_)
    · replace hf := hf.1 c_33
      exact jt_LongTrainModel_longest_95 F hr hlk hA hkr_29 _ _ _ _ _ _ _ _ _ _ _ _ hf hB (lv_sub hl [1, 2] rfl)
    · replace hf := hf.2 c_33
      refine lv_iload_n hx hb dX12_longest_44 rfl (lv_at hl 0 rfl) ?_
      refine lv_istore_n (lv' := [(1, .int z_10), (3, .int z_10), (0, .ref a_t), (2, .int x2)]) hx hb dX12_longest_45 rfl hl (by decide) rfl (fun ls hl => ?_)
      refine lv_aload_n hx hb dX12_longest_46 rfl (lv_at hl 2 rfl) ?_
      refine lv_aload_n hx hb dX12_longest_47 rfl (lv_at hl 2 rfl) ?_
      refine g_get (w := .int (i_t_4 32)) F hB 0 rfl fl_RX12_326 rfl dX12_longest_48 ?_
      refine lv_iconst (v := 4) hx hb dX12_longest_51 (by decide) ?_
      refine lv_icmp_ge (tgt := 62) hx hb dX12_longest_52 (by decide) (fun c_32 => ?_) (fun c_32 => ?_)
      · replace hf := hf.1 c_32
        refine lv_iconst (v := 4) hx hb dX12_longest_62 (by decide) ?_
        exact jt_LongTrainModel_longest_63 F hr hlk hA hkr_29 _ _ _ _ _ _ _ _ _ _ _ _ _ hf hB (lv_sub hl [2, 0] rfl)
      · replace hf := hf.2 c_32
        refine lv_aload_n hx hb dX12_longest_55 rfl (lv_at hl 2 rfl) ?_
        refine g_get (w := .int (i_t_4 32)) F hB 0 rfl fl_RX12_326 rfl dX12_longest_56 ?_
        refine lv_goto (tgt := 63) hx hb dX12_longest_59 (by decide) ?_
        exact jt_LongTrainModel_longest_63 F hr hlk hA hkr_29 _ _ _ _ _ _ _ _ _ _ _ _ _ hf hB (lv_sub hl [2, 0] rfl)

set_option maxRecDepth 100000 in
set_option maxHeartbeats 4000000 in
theorem lt_LongTrainModel_longest_29 {p : Program} {l : Launch} {e : Env} {s : State} {m : MethodId} {below : List Frame} {meth : Method} {c : Code} {A : Nat → Prop} {D : va_G} {k : Nat → ClassId} {a_t : Nat} {d_t : Nat → Nat} {j_t : Nat → Int64} {r_t_s : Nat → Int32}  {Q : Int32 → (Nat → Int32) → (Nat → Int32) → (Nat → Int32) → (Nat → Int32) → (Nat → Int32) → (Nat → Int32) → (Nat → Int32) → (Nat → Int32) → Prop}  {kx_29 : (Int32) → (Nat → Int32) → (Nat → Int32) → (Nat → Int32) → (Nat → Int32) → (Nat → Int32) → (Nat → Int32) → (Nat → Int32) → (Nat → Int32) → Prop} (F : Fx p m c cX12_longest 5 s ([.ref a_t] : List Value).toArray RX12 D k) (hr : meth.sig.returnType = (some .int)) (hlk : meth.locks = false) (hA : ∀ q : Nat, s.heap.size ≤ q → A q) (hkx_29 : ∀ (x1 : Int32) (i_t : Nat → Int32) (r_t_places : Nat → Int32) (r_t_wagons : Nat → Int32) (r_t_strengths : Nat → Int32) (r_t_worn : Nat → Int32) (r_t_foremost : Nat → Int32) (r_t_bears : Nat → Int32) (r_t_bestPlaces : Nat → Int32) (H : Heap) (locs : List Loc) (ls : Array Slot), kx_29 x1 i_t r_t_places r_t_wagons r_t_strengths r_t_worn r_t_foremost r_t_bears r_t_bestPlaces → Bd D A s.heap (wd_LongTrainModel_longest k a_t d_t i_t j_t r_t_places r_t_s r_t_wagons r_t_strengths r_t_worn r_t_foremost r_t_bears r_t_bestPlaces) H locs → lv_has ls 5 [(1, .int x1)] → W p l e { frames := 4, cells := 0, slots := 0, locals := 91 } s m ([.ref a_t] : List Value).toArray below meth c H locs 0 0 (Ei below (fun r w => ∃ (i_t : Nat → Int32), ∃ (r_t_places : Nat → Int32), ∃ (r_t_wagons : Nat → Int32), ∃ (r_t_strengths : Nat → Int32), ∃ (r_t_worn : Nat → Int32), ∃ (r_t_foremost : Nat → Int32), ∃ (r_t_bears : Nat → Int32), ∃ (r_t_bestPlaces : Nat → Int32), w = (wd_LongTrainModel_longest k a_t d_t i_t j_t r_t_places r_t_s r_t_wagons r_t_strengths r_t_worn r_t_foremost r_t_bears r_t_bestPlaces) ∧ Q r i_t r_t_places r_t_wagons r_t_strengths r_t_worn r_t_foremost r_t_bears r_t_bestPlaces) D k A ([.ref a_t] : List Value).toArray s 0 0) (F0 m 183 ls [])) :
    ∀ n : Nat, ∀ (x1 : Int32) (x2 : Int32) (i_t : Nat → Int32) (r_t_places : Nat → Int32) (r_t_wagons : Nat → Int32) (r_t_strengths : Nat → Int32) (r_t_worn : Nat → Int32) (r_t_foremost : Nat → Int32) (r_t_bears : Nat → Int32) (r_t_bestPlaces : Nat → Int32) (H : Heap) (locs : List Loc) (ls : Array Slot), lp_LongTrainModel_longest_29 r_t_s kx_29 n x1 x2 i_t r_t_places r_t_wagons r_t_strengths r_t_worn r_t_foremost r_t_bears r_t_bestPlaces → Bd D A s.heap (wd_LongTrainModel_longest k a_t d_t i_t j_t r_t_places r_t_s r_t_wagons r_t_strengths r_t_worn r_t_foremost r_t_bears r_t_bestPlaces) H locs → lv_has ls 5 [(0, .ref a_t), (1, .int x1), (2, .int x2)] → W p l e { frames := 4, cells := 0, slots := 0, locals := 91 } s m ([.ref a_t] : List Value).toArray below meth c H locs 0 0 (Ei below (fun r w => ∃ (i_t : Nat → Int32), ∃ (r_t_places : Nat → Int32), ∃ (r_t_wagons : Nat → Int32), ∃ (r_t_strengths : Nat → Int32), ∃ (r_t_worn : Nat → Int32), ∃ (r_t_foremost : Nat → Int32), ∃ (r_t_bears : Nat → Int32), ∃ (r_t_bestPlaces : Nat → Int32), w = (wd_LongTrainModel_longest k a_t d_t i_t j_t r_t_places r_t_s r_t_wagons r_t_strengths r_t_worn r_t_foremost r_t_bears r_t_bestPlaces) ∧ Q r i_t r_t_places r_t_wagons r_t_strengths r_t_worn r_t_foremost r_t_bears r_t_bestPlaces) D k A ([.ref a_t] : List Value).toArray s 0 0) (F0 m 29 ls []) := by
  intro n
  induction n with
  | zero => intro x1 x2 i_t r_t_places r_t_wagons r_t_strengths r_t_worn r_t_foremost r_t_bears r_t_bestPlaces H locs ls hf; exact absurd hf (fun h => h)
  | succ n ih => exact bt_LongTrainModel_longest_29 F hr hlk hA hkx_29 ih

set_option maxRecDepth 100000 in
set_option maxHeartbeats 4000000 in
theorem c_LongTrainModel_longest (l : Launch) (D : va_G) (k : Nat → ClassId) (a_t : Nat) (d_t : Nat → Nat) (i_t : Nat → Int32) (j_t : Nat → Int64) (r_t_places : Nat → Int32) (r_t_s : Nat → Int32) (r_t_wagons : Nat → Int32) (r_t_strengths : Nat → Int32) (r_t_worn : Nat → Int32) (r_t_foremost : Nat → Int32) (r_t_bears : Nat → Int32) (r_t_bestPlaces : Nat → Int32)  (Q : Int32 → (Nat → Int32) → (Nat → Int32) → (Nat → Int32) → (Nat → Int32) → (Nat → Int32) → (Nat → Int32) → (Nat → Int32) → (Nat → Int32) → Prop)  (hf : w_LongTrainModel_longest i_t r_t_places r_t_s r_t_wagons r_t_strengths r_t_worn r_t_foremost r_t_bears r_t_bestPlaces Q) : CtI l yX12_longest cX12_longest 5 (some .int) 4 91 0 0 D k [.ref a_t] (wd_LongTrainModel_longest k a_t d_t i_t j_t r_t_places r_t_s r_t_wagons r_t_strengths r_t_worn r_t_foremost r_t_bears r_t_bestPlaces) (fun r w => ∃ (i_t : Nat → Int32), ∃ (r_t_places : Nat → Int32), ∃ (r_t_wagons : Nat → Int32), ∃ (r_t_strengths : Nat → Int32), ∃ (r_t_worn : Nat → Int32), ∃ (r_t_foremost : Nat → Int32), ∃ (r_t_bears : Nat → Int32), ∃ (r_t_bestPlaces : Nat → Int32), w = (wd_LongTrainModel_longest k a_t d_t i_t j_t r_t_places r_t_s r_t_wagons r_t_strengths r_t_worn r_t_foremost r_t_bears r_t_bestPlaces) ∧ Q r i_t r_t_places r_t_wagons r_t_strengths r_t_worn r_t_foremost r_t_bears r_t_bestPlaces) := by
  refine CtI.of (by decide) (Nat.le_of_ble_eq_true rfl) ?_
  intro p e s m below meth c A F hr hlk hnm hA hB ls hl
  have hx := F.x
  have hb := F.b
  unfold w_LongTrainModel_longest at hf
  replace hl : lv_has ls 5 [(0, .ref a_t)] := hl
  refine lv_aload_n hx hb dX12_longest_0 rfl (lv_at hl 0 rfl) ?_
  refine lv_iconst (v := 0) hx hb dX12_longest_1 (by decide) ?_
  refine g_puti F hB 0 rfl fl_RX12_1 rfl (wd_LongTrainModel_longest k a_t d_t (upd i_t 0 (0 : Int32)) j_t r_t_places r_t_s r_t_wagons r_t_strengths r_t_worn r_t_foremost r_t_bears r_t_bestPlaces) rfl dX12_longest_2 (fun H locs hB => ?_)
  refine lv_iconst (v := -1) hx hb dX12_longest_5 (by decide) ?_
  refine lv_istore_n (lv' := [(1, .int (-1 : Int32)), (0, .ref a_t)]) hx hb dX12_longest_6 rfl hl (by decide) rfl (fun ls hl => ?_)
  refine lv_iconst (v := 0) hx hb dX12_longest_7 (by decide) ?_
  refine lv_istore_n (lv' := [(2, .int (0 : Int32)), (1, .int (-1 : Int32)), (0, .ref a_t)]) hx hb dX12_longest_8 rfl hl (by decide) rfl (fun ls hl => ?_)
  obtain ⟨n_45, hf⟩ := hf
  refine lt_LongTrainModel_longest_9 F hr hlk hA (fun r_t_places_3 H locs ls hf hB hl => ?_) n_45 _ _ _ _ _ hf hB (lv_sub hl [2, 1, 0] rfl)
  refine lv_iconst (v := 1) hx hb dX12_longest_27 (by decide) ?_
  refine lv_istore_n (lv' := [(2, .int (1 : Int32)), (0, .ref a_t), (1, .int (-1 : Int32))]) hx hb dX12_longest_28 rfl hl (by decide) rfl (fun ls hl => ?_)
  obtain ⟨n_44, hf⟩ := hf
  refine lt_LongTrainModel_longest_29 F hr hlk hA (fun x1_35 i_t_36 r_t_places_37 r_t_wagons_38 r_t_strengths_39 r_t_worn_40 r_t_foremost_41 r_t_bears_42 r_t_bestPlaces_43 H locs ls hf hB hl => ?_) n_44 _ _ _ _ _ _ _ _ _ _ _ _ _ hf hB (lv_sub hl [1, 2, 0] rfl)
  refine lv_iload_n hx hb dX12_longest_183 rfl (lv_at hl 0 rfl) ?_
  exact r_i F hr hlk hB ⟨_, _, _, _, _, _, _, _, rfl, hf⟩ dX12_longest_184

/-! LongTrainModel.placed -/
set_option maxRecDepth 100000 in
set_option maxHeartbeats 4000000 in
theorem c_LongTrainModel_placed (l : Launch) (D : va_G) (k : Nat → ClassId) (a_t : Nat) (d_t : Nat → Nat) (i_t : Nat → Int32) (j_t : Nat → Int64) (r_t_bestPlaces : Nat → Int32) (n1 : Int32) (Q : Int32 → (Nat → Int32) → Prop)  (hf : w_LongTrainModel_placed i_t r_t_bestPlaces n1 Q) : CtI l yX12_placed cX12_placed 2 (some .int) 1 22 0 0 D k [.ref a_t, .int n1] (wd_LongTrainModel_placed k a_t d_t i_t j_t r_t_bestPlaces) (fun r w => ∃ (i_t : Nat → Int32), w = (wd_LongTrainModel_placed k a_t d_t i_t j_t r_t_bestPlaces) ∧ Q r i_t) := by
  refine CtI.of (by decide) (Nat.le_of_ble_eq_true rfl) ?_
  intro p e s m below meth c A F hr hlk hnm hA hB ls hl
  have hx := F.x
  have hb := F.b
  unfold w_LongTrainModel_placed at hf
  replace hl : lv_has ls 2 [(0, .ref a_t), (1, .int n1)] := hl
  refine lv_aload_n hx hb dX12_placed_0 rfl (lv_at hl 0 rfl) ?_
  refine lv_iconst (v := 0) hx hb dX12_placed_1 (by decide) ?_
  refine g_puti F hB 0 rfl fl_RX12_1 rfl (wd_LongTrainModel_placed k a_t d_t (upd i_t 0 (0 : Int32)) j_t r_t_bestPlaces) rfl dX12_placed_2 (fun H locs hB => ?_)
  refine lv_iload_n hx hb dX12_placed_5 rfl (lv_at hl 1 rfl) ?_
  refine lv_iconst (v := 0) hx hb dX12_placed_6 (by decide) ?_
  refine lv_aload_n hx hb dX12_placed_7 rfl (lv_at hl 0 rfl) ?_
  refine g_get (w := .int ((upd i_t 0 (0 : Int32)) 33)) F hB 0 rfl fl_RX12_342 rfl dX12_placed_8 ?_
  refine lv_iconst (v := 1) hx hb dX12_placed_11 (by decide) ?_
  refine lv_isub hx hb dX12_placed_12 ?_
  refine k_si (wr := [(a_t, ob 12 (rfd d_t) (upd i_t 0 (0 : Int32)) j_t), ((d_t 31), ai k 4 r_t_bestPlaces)]) (rest := []) F hA hB (c_LongTrainModel_isIn l D k n1 (0 : Int32) (((upd i_t 0 (0 : Int32)) 33) - (1 : Int32)) _  hf) ml_RX12_182 ms_yX12_isIn [] [0, 1] rfl rfl (by decide) (by decide) (by decide) rfl hl.1 rfl (Nat.le_of_ble_eq_true rfl) ⟨Nat.le_of_ble_eq_true rfl, Nat.le_of_ble_eq_true rfl⟩ ⟨Nat.le_of_ble_eq_true rfl, Nat.le_of_ble_eq_true rfl⟩ dX12_placed_13 (fun z_1 w1 H locs hq hB => ?_)
  obtain ⟨h_2, rfl, hf⟩ := hq
  replace hB : Bd D A s.heap (wd_LongTrainModel_placed k a_t d_t (upd i_t 0 (0 : Int32)) j_t r_t_bestPlaces) H locs := hB.sub [0, 1] (by decide) rfl
  refine lv_if_eq (tgt := 28) hx hb dX12_placed_16 (by decide) (fun c_4 => ?_) (fun c_4 => ?_)
  · replace hf := hf.1 c_4
    refine lv_iconst (v := -1) hx hb dX12_placed_28 (by decide) ?_
    exact r_i F hr hlk hB ⟨_, rfl, hf⟩ dX12_placed_29
  · replace hf := hf.2 c_4
    refine lv_aload_n hx hb dX12_placed_19 rfl (lv_at hl 0 rfl) ?_
    refine g_get (w := .ref (d_t 31)) F hB 0 rfl fl_RX12_71 rfl dX12_placed_20 ?_
    refine lv_iload_n hx hb dX12_placed_23 rfl (lv_at hl 1 rfl) ?_
    obtain ⟨h_3, hf⟩ := hf
    refine g_iald F hB 1 rfl h_3 dX12_placed_24 ?_
    refine lv_goto (tgt := 29) hx hb dX12_placed_25 (by decide) ?_
    exact r_i F hr hlk hB ⟨_, rfl, hf⟩ dX12_placed_29

/-! LongTrainModel.platformOf -/
set_option maxRecDepth 100000 in
set_option maxHeartbeats 4000000 in
theorem bt_LongTrainModel_platformOf_13 {p : Program} {l : Launch} {e : Env} {s : State} {m : MethodId} {below : List Frame} {meth : Method} {c : Code} {A : Nat → Prop} {D : va_G} {k : Nat → ClassId} {a_t : Nat} {d_t : Nat → Nat} {i_t : Nat → Int32} {j_t : Nat → Int64} {r_t_s : Nat → Int32} {r_t_wagons : Nat → Int32} {r_t_foremost : Nat → Int32} {r_t_bears : Nat → Int32} {n1 : Int32} {Q : Int32 → (Nat → Int32) → (Nat → Int32) → (Nat → Int32) → (Nat → Int32) → Prop}  {x1 : Int32} {kx_13 : (Int32) → Prop} {kr_13 : (Int32) → (Int32) → Prop} (F : Fx p m c cX12_platformOf 4 s ([.ref a_t, .int n1] : List Value).toArray RX12 D k) (hr : meth.sig.returnType = (some .int)) (hlk : meth.locks = false) (hA : ∀ q : Nat, s.heap.size ≤ q → A q) (hkx_13 : ∀ (x2 : Int32) (H : Heap) (locs : List Loc) (ls : Array Slot), kx_13 x2 → Bd D A s.heap (wd_LongTrainModel_platformOf k a_t d_t i_t j_t r_t_s r_t_wagons r_t_foremost r_t_bears) H locs → lv_has ls 4 [(2, .int x2)] → W p l e { frames := 3, cells := 0, slots := 0, locals := 66 } s m ([.ref a_t, .int n1] : List Value).toArray below meth c H locs 0 0 (Ei below (fun r w => ∃ (i_t : Nat → Int32), ∃ (r_t_wagons : Nat → Int32), ∃ (r_t_foremost : Nat → Int32), ∃ (r_t_bears : Nat → Int32), w = (wd_LongTrainModel_platformOf k a_t d_t i_t j_t r_t_s r_t_wagons r_t_foremost r_t_bears) ∧ Q r i_t r_t_wagons r_t_foremost r_t_bears) D k A ([.ref a_t, .int n1] : List Value).toArray s 0 0) (F0 m 75 ls [])) (hkr_13 : ∀ (x2 : Int32) (x3 : Int32) (H : Heap) (locs : List Loc) (ls : Array Slot), kr_13 x2 x3 → Bd D A s.heap (wd_LongTrainModel_platformOf k a_t d_t i_t j_t r_t_s r_t_wagons r_t_foremost r_t_bears) H locs → lv_has ls 4 [(0, .ref a_t), (1, .int x1), (2, .int x2), (3, .int x3)] → W p l e { frames := 3, cells := 0, slots := 0, locals := 66 } s m ([.ref a_t, .int n1] : List Value).toArray below meth c H locs 0 0 (Ei below (fun r w => ∃ (i_t : Nat → Int32), ∃ (r_t_wagons : Nat → Int32), ∃ (r_t_foremost : Nat → Int32), ∃ (r_t_bears : Nat → Int32), w = (wd_LongTrainModel_platformOf k a_t d_t i_t j_t r_t_s r_t_wagons r_t_foremost r_t_bears) ∧ Q r i_t r_t_wagons r_t_foremost r_t_bears) D k A ([.ref a_t, .int n1] : List Value).toArray s 0 0) (F0 m 13 ls [])) :
    ∀ (x2 : Int32) (x3 : Int32) (H : Heap) (locs : List Loc) (ls : Array Slot), b_LongTrainModel_platformOf_13 i_t r_t_s r_t_wagons r_t_foremost x1 kx_13 kr_13 x2 x3 → Bd D A s.heap (wd_LongTrainModel_platformOf k a_t d_t i_t j_t r_t_s r_t_wagons r_t_foremost r_t_bears) H locs → lv_has ls 4 [(0, .ref a_t), (1, .int x1), (2, .int x2), (3, .int x3)] → W p l e { frames := 3, cells := 0, slots := 0, locals := 66 } s m ([.ref a_t, .int n1] : List Value).toArray below meth c H locs 0 0 (Ei below (fun r w => ∃ (i_t : Nat → Int32), ∃ (r_t_wagons : Nat → Int32), ∃ (r_t_foremost : Nat → Int32), ∃ (r_t_bears : Nat → Int32), w = (wd_LongTrainModel_platformOf k a_t d_t i_t j_t r_t_s r_t_wagons r_t_foremost r_t_bears) ∧ Q r i_t r_t_wagons r_t_foremost r_t_bears) D k A ([.ref a_t, .int n1] : List Value).toArray s 0 0) (F0 m 13 ls []) := by
  have hx := F.x
  have hb := F.b
  intro x2 x3 H locs ls hf hB hl
  unfold b_LongTrainModel_platformOf_13 at hf
  refine lv_iload_n hx hb dX12_platformOf_13 rfl (lv_at hl 3 rfl) ?_
  refine lv_aload_n hx hb dX12_platformOf_14 rfl (lv_at hl 0 rfl) ?_
  refine g_get (w := .int (i_t 27)) F hB 0 rfl fl_RX12_270 rfl dX12_platformOf_15 ?_
  refine lv_icmp_ge (tgt := 75) hx hb dX12_platformOf_18 (by decide) (fun c_12 => ?_) (fun c_12 => ?_)
  · replace hf := hf.1 c_12
    exact hkx_13 _ _ _ _ hf hB (lv_sub hl [2] rfl)
  · replace hf := hf.2 c_12
    refine lv_aload_n hx hb dX12_platformOf_21 rfl (lv_at hl 0 rfl) ?_
    refine g_get (w := .ref (d_t 23)) F hB 0 rfl fl_RX12_53 rfl dX12_platformOf_22 ?_
    refine lv_iload_n hx hb dX12_platformOf_25 rfl (lv_at hl 3 rfl) ?_
    obtain ⟨h_6, hf⟩ := hf
    refine g_iald F hB 3 rfl h_6 dX12_platformOf_26 ?_
    refine lv_aload_n hx hb dX12_platformOf_27 rfl (lv_at hl 0 rfl) ?_
    refine lv_aload_n hx hb dX12_platformOf_28 rfl (lv_at hl 0 rfl) ?_
    refine g_get (w := .ref (d_t 22)) F hB 0 rfl fl_RX12_50 rfl dX12_platformOf_29 ?_
    refine lv_iload_n hx hb dX12_platformOf_32 rfl (lv_at hl 3 rfl) ?_
    obtain ⟨h_7, hf⟩ := hf
    refine g_iald F hB 2 rfl h_7 dX12_platformOf_33 ?_
    refine k_vi (wr := [((d_t 22), ai k 20 r_t_wagons), ((d_t 23), ai k 20 r_t_foremost), ((d_t 24), ai k 20 r_t_bears)]) (rest := [.int (r_t_foremost (x3).toNatClampNeg)]) F hA hB (c_LongTrainModel_longOf l D k a_t d_t i_t j_t r_t_s (r_t_wagons (x3).toNatClampNeg) _  hf) ml_RX12_273 mv_yX12_longOf [0, 1] [2, 3, 4] rfl rfl (by decide) (by decide) (by decide) 0 rfl rfl rfl hl.1 rfl (Nat.le_of_ble_eq_true rfl) ⟨Nat.le_of_ble_eq_true rfl, Nat.le_of_ble_eq_true rfl⟩ ⟨Nat.le_of_ble_eq_true rfl, Nat.le_of_ble_eq_true rfl⟩ dX12_platformOf_34 (fun z_8 w1 H locs hq hB => ?_)
    obtain ⟨rfl, hf⟩ := hq
    replace hB : Bd D A s.heap (wd_LongTrainModel_platformOf k a_t d_t i_t j_t r_t_s r_t_wagons r_t_foremost r_t_bears) H locs := hB.sub [3, 4, 0, 1, 2] (by decide) rfl
    refine lv_isub hx hb dX12_platformOf_37 ?_
    refine lv_iconst (v := 1) hx hb dX12_platformOf_38 (by decide) ?_
    refine lv_iadd hx hb dX12_platformOf_39 ?_
    refine lv_aload_n hx hb dX12_platformOf_40 rfl (lv_at hl 0 rfl) ?_
    refine lv_iload_n hx hb dX12_platformOf_41 rfl (lv_at hl 1 rfl) ?_
    refine k_vi (wr := [((d_t 22), ai k 20 r_t_wagons), ((d_t 23), ai k 20 r_t_foremost), ((d_t 24), ai k 20 r_t_bears)]) (rest := [.int (((r_t_foremost (x3).toNatClampNeg) - z_8) + (1 : Int32))]) F hA hB (c_LongTrainModel_haltAt l D k a_t d_t i_t j_t r_t_s x1 _  hf) ml_RX12_261 mv_yX12_haltAt [0, 1] [2, 3, 4] rfl rfl (by decide) (by decide) (by decide) 0 rfl rfl rfl hl.1 rfl (Nat.le_of_ble_eq_true rfl) ⟨Nat.le_of_ble_eq_true rfl, Nat.le_of_ble_eq_true rfl⟩ ⟨Nat.le_of_ble_eq_true rfl, Nat.le_of_ble_eq_true rfl⟩ dX12_platformOf_42 (fun z_9 w1 H locs hq hB => ?_)
    obtain ⟨rfl, hf⟩ := hq
    replace hB : Bd D A s.heap (wd_LongTrainModel_platformOf k a_t d_t i_t j_t r_t_s r_t_wagons r_t_foremost r_t_bears) H locs := hB.sub [3, 4, 0, 1, 2] (by decide) rfl
    refine lv_aload_n hx hb dX12_platformOf_45 rfl (lv_at hl 0 rfl) ?_
    refine g_get (w := .ref (d_t 6)) F hB 0 rfl fl_RX12_33 rfl dX12_platformOf_46 ?_
    refine lv_sipush (v := 411) hx hb dX12_platformOf_49 (by decide) ?_
    refine lv_iconst (v := 3) hx hb dX12_platformOf_52 (by decide) ?_
    refine lv_iload_n hx hb dX12_platformOf_53 rfl (lv_at hl 1 rfl) ?_
    refine lv_imul hx hb dX12_platformOf_54 ?_
    refine lv_iadd hx hb dX12_platformOf_55 ?_
    refine lv_iconst (v := 1) hx hb dX12_platformOf_56 (by decide) ?_
    refine lv_iadd hx hb dX12_platformOf_57 ?_
    obtain ⟨h_10, hf⟩ := hf
    refine g_iald F hB 1 rfl h_10 dX12_platformOf_58 ?_
    refine lv_isub hx hb dX12_platformOf_59 ?_
    refine lv_icmp_le (tgt := 69) hx hb dX12_platformOf_60 (by decide) (fun c_11 => ?_) (fun c_11 => ?_)
    · replace hf := hf.1 c_11
      refine lv_iinc (v := (x3 + 1)) (lv' := [(3, .int (x3 + 1)), (0, .ref a_t), (1, .int x1), (2, .int x2)]) (k := 3) hx hb dX12_platformOf_69 hl rfl rfl (by decide) rfl (fun ls hl => ?_)
      refine lv_goto (tgt := 13) hx hb dX12_platformOf_72 (by decide) ?_
      exact hkr_13 _ _ _ _ _ hf hB (lv_sub hl [1, 2, 3, 0] rfl)
    · replace hf := hf.2 c_11
      refine lv_iload_n hx hb dX12_platformOf_63 rfl (lv_at hl 2 rfl) ?_
      refine lv_iconst (v := 1) hx hb dX12_platformOf_64 (by decide) ?_
      refine lv_iload_n hx hb dX12_platformOf_65 rfl (lv_at hl 3 rfl) ?_
      refine lv_ishl hx hb dX12_platformOf_66 ?_
      refine lv_ior hx hb dX12_platformOf_67 ?_
      refine lv_istore_n (lv' := [(2, .int (x2 ||| ((1 : Int32) <<< (x3 &&& 31)))), (0, .ref a_t), (1, .int x1), (3, .int x3)]) hx hb dX12_platformOf_68 rfl hl (by decide) rfl (fun ls hl => ?_)
      refine lv_iinc (v := (x3 + 1)) (lv' := [(3, .int (x3 + 1)), (2, .int (x2 ||| ((1 : Int32) <<< (x3 &&& 31)))), (0, .ref a_t), (1, .int x1)]) (k := 3) hx hb dX12_platformOf_69 hl rfl rfl (by decide) rfl (fun ls hl => ?_)
      refine lv_goto (tgt := 13) hx hb dX12_platformOf_72 (by decide) ?_
      exact hkr_13 _ _ _ _ _ hf hB (lv_sub hl [2, 3, 1, 0] rfl)

set_option maxRecDepth 100000 in
set_option maxHeartbeats 4000000 in
theorem lt_LongTrainModel_platformOf_13 {p : Program} {l : Launch} {e : Env} {s : State} {m : MethodId} {below : List Frame} {meth : Method} {c : Code} {A : Nat → Prop} {D : va_G} {k : Nat → ClassId} {a_t : Nat} {d_t : Nat → Nat} {i_t : Nat → Int32} {j_t : Nat → Int64} {r_t_s : Nat → Int32} {r_t_wagons : Nat → Int32} {r_t_foremost : Nat → Int32} {r_t_bears : Nat → Int32} {n1 : Int32} {Q : Int32 → (Nat → Int32) → (Nat → Int32) → (Nat → Int32) → (Nat → Int32) → Prop}  {x1 : Int32} {kx_13 : (Int32) → Prop} (F : Fx p m c cX12_platformOf 4 s ([.ref a_t, .int n1] : List Value).toArray RX12 D k) (hr : meth.sig.returnType = (some .int)) (hlk : meth.locks = false) (hA : ∀ q : Nat, s.heap.size ≤ q → A q) (hkx_13 : ∀ (x2 : Int32) (H : Heap) (locs : List Loc) (ls : Array Slot), kx_13 x2 → Bd D A s.heap (wd_LongTrainModel_platformOf k a_t d_t i_t j_t r_t_s r_t_wagons r_t_foremost r_t_bears) H locs → lv_has ls 4 [(2, .int x2)] → W p l e { frames := 3, cells := 0, slots := 0, locals := 66 } s m ([.ref a_t, .int n1] : List Value).toArray below meth c H locs 0 0 (Ei below (fun r w => ∃ (i_t : Nat → Int32), ∃ (r_t_wagons : Nat → Int32), ∃ (r_t_foremost : Nat → Int32), ∃ (r_t_bears : Nat → Int32), w = (wd_LongTrainModel_platformOf k a_t d_t i_t j_t r_t_s r_t_wagons r_t_foremost r_t_bears) ∧ Q r i_t r_t_wagons r_t_foremost r_t_bears) D k A ([.ref a_t, .int n1] : List Value).toArray s 0 0) (F0 m 75 ls [])) :
    ∀ n : Nat, ∀ (x2 : Int32) (x3 : Int32) (H : Heap) (locs : List Loc) (ls : Array Slot), lp_LongTrainModel_platformOf_13 i_t r_t_s r_t_wagons r_t_foremost x1 kx_13 n x2 x3 → Bd D A s.heap (wd_LongTrainModel_platformOf k a_t d_t i_t j_t r_t_s r_t_wagons r_t_foremost r_t_bears) H locs → lv_has ls 4 [(0, .ref a_t), (1, .int x1), (2, .int x2), (3, .int x3)] → W p l e { frames := 3, cells := 0, slots := 0, locals := 66 } s m ([.ref a_t, .int n1] : List Value).toArray below meth c H locs 0 0 (Ei below (fun r w => ∃ (i_t : Nat → Int32), ∃ (r_t_wagons : Nat → Int32), ∃ (r_t_foremost : Nat → Int32), ∃ (r_t_bears : Nat → Int32), w = (wd_LongTrainModel_platformOf k a_t d_t i_t j_t r_t_s r_t_wagons r_t_foremost r_t_bears) ∧ Q r i_t r_t_wagons r_t_foremost r_t_bears) D k A ([.ref a_t, .int n1] : List Value).toArray s 0 0) (F0 m 13 ls []) := by
  intro n
  induction n with
  | zero => intro x2 x3 H locs ls hf; exact absurd hf (fun h => h)
  | succ n ih => exact bt_LongTrainModel_platformOf_13 F hr hlk hA hkx_13 ih

set_option maxRecDepth 100000 in
set_option maxHeartbeats 4000000 in
theorem c_LongTrainModel_platformOf (l : Launch) (D : va_G) (k : Nat → ClassId) (a_t : Nat) (d_t : Nat → Nat) (i_t : Nat → Int32) (j_t : Nat → Int64) (r_t_s : Nat → Int32) (r_t_wagons : Nat → Int32) (r_t_foremost : Nat → Int32) (r_t_bears : Nat → Int32) (n1 : Int32) (Q : Int32 → (Nat → Int32) → (Nat → Int32) → (Nat → Int32) → (Nat → Int32) → Prop)  (hf : w_LongTrainModel_platformOf i_t r_t_s r_t_wagons r_t_foremost r_t_bears n1 Q) : CtI l yX12_platformOf cX12_platformOf 4 (some .int) 3 66 0 0 D k [.ref a_t, .int n1] (wd_LongTrainModel_platformOf k a_t d_t i_t j_t r_t_s r_t_wagons r_t_foremost r_t_bears) (fun r w => ∃ (i_t : Nat → Int32), ∃ (r_t_wagons : Nat → Int32), ∃ (r_t_foremost : Nat → Int32), ∃ (r_t_bears : Nat → Int32), w = (wd_LongTrainModel_platformOf k a_t d_t i_t j_t r_t_s r_t_wagons r_t_foremost r_t_bears) ∧ Q r i_t r_t_wagons r_t_foremost r_t_bears) := by
  refine CtI.of (by decide) (Nat.le_of_ble_eq_true rfl) ?_
  intro p e s m below meth c A F hr hlk hnm hA hB ls hl
  have hx := F.x
  have hb := F.b
  unfold w_LongTrainModel_platformOf at hf
  replace hl : lv_has ls 4 [(0, .ref a_t), (1, .int n1)] := hl
  refine lv_aload_n hx hb dX12_platformOf_0 rfl (lv_at hl 0 rfl) ?_
  refine lv_aload_n hx hb dX12_platformOf_1 rfl (lv_at hl 0 rfl) ?_
  refine lv_iload_n hx hb dX12_platformOf_2 rfl (lv_at hl 1 rfl) ?_
  refine k_vi (wr := [((d_t 22), ai k 20 r_t_wagons), ((d_t 23), ai k 20 r_t_foremost), ((d_t 24), ai k 20 r_t_bears)]) (rest := [.ref a_t]) F hA hB (c_LongTrainModel_haltAt l D k a_t d_t i_t j_t r_t_s n1 _  hf) ml_RX12_261 mv_yX12_haltAt [0, 1] [2, 3, 4] rfl rfl (by decide) (by decide) (by decide) 0 rfl rfl rfl hl.1 rfl (Nat.le_of_ble_eq_true rfl) ⟨Nat.le_of_ble_eq_true rfl, Nat.le_of_ble_eq_true rfl⟩ ⟨Nat.le_of_ble_eq_true rfl, Nat.le_of_ble_eq_true rfl⟩ dX12_platformOf_3 (fun z_1 w1 H locs hq hB => ?_)
  obtain ⟨rfl, hf⟩ := hq
  replace hB : Bd D A s.heap (wd_LongTrainModel_platformOf k a_t d_t i_t j_t r_t_s r_t_wagons r_t_foremost r_t_bears) H locs := hB.sub [3, 4, 0, 1, 2] (by decide) rfl
  refine k_vv (wr := []) (rest := []) F hA hB (c_LongTrainModel_freeAt l D k a_t d_t i_t j_t r_t_s r_t_wagons r_t_foremost r_t_bears z_1 _  hf) ml_RX12_288 mv_yX12_freeAt [0, 1, 2, 3, 4] [] rfl rfl (by decide) (by decide) (by decide) 0 rfl rfl rfl hl.1 rfl (Nat.le_of_ble_eq_true rfl) ⟨Nat.le_of_ble_eq_true rfl, Nat.le_of_ble_eq_true rfl⟩ ⟨Nat.le_of_ble_eq_true rfl, Nat.le_of_ble_eq_true rfl⟩ dX12_platformOf_6 (fun w1 H locs hq hB => ?_)
  obtain ⟨i_t_2, r_t_wagons_3, r_t_foremost_4, r_t_bears_5, rfl, hf⟩ := hq
  replace hB : Bd D A s.heap (wd_LongTrainModel_platformOf k a_t d_t i_t_2 j_t r_t_s r_t_wagons_3 r_t_foremost_4 r_t_bears_5) H locs := hB.sub [0, 1, 2, 3, 4] (by decide) rfl
  refine lv_iconst (v := 0) hx hb dX12_platformOf_9 (by decide) ?_
  refine lv_istore_n (lv' := [(2, .int (0 : Int32)), (0, .ref a_t), (1, .int n1)]) hx hb dX12_platformOf_10 rfl hl (by decide) rfl (fun ls hl => ?_)
  refine lv_iconst (v := 0) hx hb dX12_platformOf_11 (by decide) ?_
  refine lv_istore_n (lv' := [(3, .int (0 : Int32)), (2, .int (0 : Int32)), (0, .ref a_t), (1, .int n1)]) hx hb dX12_platformOf_12 rfl hl (by decide) rfl (fun ls hl => ?_)
  obtain ⟨n_14, hf⟩ := hf
  refine lt_LongTrainModel_platformOf_13 F hr hlk hA (fun x2_13 H locs ls hf hB hl => ?_) n_14 _ _ _ _ _ hf hB (lv_sub hl [2, 3, 1, 0] rfl)
  refine lv_iload_n hx hb dX12_platformOf_75 rfl (lv_at hl 0 rfl) ?_
  exact r_i F hr hlk hB ⟨_, _, _, _, rfl, hf⟩ dX12_platformOf_76

/-! LongTrainModel.platform -/
set_option maxRecDepth 100000 in
set_option maxHeartbeats 4000000 in
theorem c_LongTrainModel_platform (l : Launch) (D : va_G) (k : Nat → ClassId) (a_t : Nat) (d_t : Nat → Nat) (i_t : Nat → Int32) (j_t : Nat → Int64) (r_t_s : Nat → Int32) (r_t_wagons : Nat → Int32) (r_t_foremost : Nat → Int32) (r_t_bears : Nat → Int32) (n1 : Int32) (Q : Int32 → (Nat → Int32) → (Nat → Int32) → (Nat → Int32) → (Nat → Int32) → Prop)  (hf : w_LongTrainModel_platform i_t r_t_s r_t_wagons r_t_foremost r_t_bears n1 Q) : CtI l yX12_platform cX12_platform 2 (some .int) 4 89 0 0 D k [.ref a_t, .int n1] (wd_LongTrainModel_platform k a_t d_t i_t j_t r_t_s r_t_wagons r_t_foremost r_t_bears) (fun r w => ∃ (i_t : Nat → Int32), ∃ (r_t_wagons : Nat → Int32), ∃ (r_t_foremost : Nat → Int32), ∃ (r_t_bears : Nat → Int32), w = (wd_LongTrainModel_platform k a_t d_t i_t j_t r_t_s r_t_wagons r_t_foremost r_t_bears) ∧ Q r i_t r_t_wagons r_t_foremost r_t_bears) := by
  refine CtI.of (by decide) (Nat.le_of_ble_eq_true rfl) ?_
  intro p e s m below meth c A F hr hlk hnm hA hB ls hl
  have hx := F.x
  have hb := F.b
  unfold w_LongTrainModel_platform at hf
  replace hl : lv_has ls 2 [(0, .ref a_t), (1, .int n1)] := hl
  refine lv_aload_n hx hb dX12_platform_0 rfl (lv_at hl 0 rfl) ?_
  refine lv_iconst (v := 0) hx hb dX12_platform_1 (by decide) ?_
  refine g_puti F hB 0 rfl fl_RX12_1 rfl (wd_LongTrainModel_platform k a_t d_t (upd i_t 0 (0 : Int32)) j_t r_t_s r_t_wagons r_t_foremost r_t_bears) rfl dX12_platform_2 (fun H locs hB => ?_)
  refine lv_aload_n hx hb dX12_platform_5 rfl (lv_at hl 0 rfl) ?_
  refine lv_iload_n hx hb dX12_platform_6 rfl (lv_at hl 1 rfl) ?_
  refine k_vi (wr := [((d_t 22), ai k 20 r_t_wagons), ((d_t 23), ai k 20 r_t_foremost), ((d_t 24), ai k 20 r_t_bears)]) (rest := []) F hA hB (c_LongTrainModel_isHalt l D k a_t d_t (upd i_t 0 (0 : Int32)) j_t r_t_s n1 _  hf) ml_RX12_258 mv_yX12_isHalt [0, 1] [2, 3, 4] rfl rfl (by decide) (by decide) (by decide) 0 rfl rfl rfl hl.1 rfl (Nat.le_of_ble_eq_true rfl) ⟨Nat.le_of_ble_eq_true rfl, Nat.le_of_ble_eq_true rfl⟩ ⟨Nat.le_of_ble_eq_true rfl, Nat.le_of_ble_eq_true rfl⟩ dX12_platform_7 (fun z_1 w1 H locs hq hB => ?_)
  obtain ⟨h_2, rfl, hf⟩ := hq
  replace hB : Bd D A s.heap (wd_LongTrainModel_platform k a_t d_t (upd i_t 0 (0 : Int32)) j_t r_t_s r_t_wagons r_t_foremost r_t_bears) H locs := hB.sub [3, 4, 0, 1, 2] (by decide) rfl
  refine lv_if_eq (tgt := 21) hx hb dX12_platform_10 (by decide) (fun c_8 => ?_) (fun c_8 => ?_)
  · replace hf := hf.1 c_8
    refine lv_iconst (v := -1) hx hb dX12_platform_21 (by decide) ?_
    exact r_i F hr hlk hB ⟨_, _, _, _, rfl, hf⟩ dX12_platform_22
  · replace hf := hf.2 c_8
    refine lv_aload_n hx hb dX12_platform_13 rfl (lv_at hl 0 rfl) ?_
    refine lv_iload_n hx hb dX12_platform_14 rfl (lv_at hl 1 rfl) ?_
    refine k_vi (wr := []) (rest := []) F hA hB (c_LongTrainModel_platformOf l D k a_t d_t (upd i_t 0 (0 : Int32)) j_t r_t_s r_t_wagons r_t_foremost r_t_bears n1 _  hf) ml_RX12_345 mv_yX12_platformOf [0, 1, 2, 3, 4] [] rfl rfl (by decide) (by decide) (by decide) 0 rfl rfl rfl hl.1 rfl (Nat.le_of_ble_eq_true rfl) ⟨Nat.le_of_ble_eq_true rfl, Nat.le_of_ble_eq_true rfl⟩ ⟨Nat.le_of_ble_eq_true rfl, Nat.le_of_ble_eq_true rfl⟩ dX12_platform_15 (fun z_7 w1 H locs hq hB => ?_)
    obtain ⟨i_t_3, r_t_wagons_4, r_t_foremost_5, r_t_bears_6, rfl, hf⟩ := hq
    replace hB : Bd D A s.heap (wd_LongTrainModel_platform k a_t d_t i_t_3 j_t r_t_s r_t_wagons_4 r_t_foremost_5 r_t_bears_6) H locs := hB.sub [0, 1, 2, 3, 4] (by decide) rfl
    refine lv_goto (tgt := 22) hx hb dX12_platform_18 (by decide) ?_
    exact r_i F hr hlk hB ⟨_, _, _, _, rfl, hf⟩ dX12_platform_22

/-! LongTrainModel.room -/
set_option maxRecDepth 100000 in
set_option maxHeartbeats 4000000 in
theorem c_LongTrainModel_room (l : Launch) (D : va_G) (k : Nat → ClassId) (a_t : Nat) (d_t : Nat → Nat) (i_t : Nat → Int32) (j_t : Nat → Int64) (r_t_s : Nat → Int32) (r_t_wagons : Nat → Int32) (r_t_foremost : Nat → Int32) (r_t_bears : Nat → Int32) (n1 : Int32) (Q : Int32 → (Nat → Int32) → (Nat → Int32) → (Nat → Int32) → (Nat → Int32) → Prop)  (hf : w_LongTrainModel_room i_t r_t_s r_t_wagons r_t_foremost r_t_bears n1 Q) : CtI l yX12_room cX12_room 2 (some .int) 3 66 0 0 D k [.ref a_t, .int n1] (wd_LongTrainModel_room k a_t d_t i_t j_t r_t_s r_t_wagons r_t_foremost r_t_bears) (fun r w => ∃ (i_t : Nat → Int32), ∃ (r_t_wagons : Nat → Int32), ∃ (r_t_foremost : Nat → Int32), ∃ (r_t_bears : Nat → Int32), w = (wd_LongTrainModel_room k a_t d_t i_t j_t r_t_s r_t_wagons r_t_foremost r_t_bears) ∧ Q r i_t r_t_wagons r_t_foremost r_t_bears) := by
  refine CtI.of (by decide) (Nat.le_of_ble_eq_true rfl) ?_
  intro p e s m below meth c A F hr hlk hnm hA hB ls hl
  have hx := F.x
  have hb := F.b
  unfold w_LongTrainModel_room at hf
  replace hl : lv_has ls 2 [(0, .ref a_t), (1, .int n1)] := hl
  refine lv_aload_n hx hb dX12_room_0 rfl (lv_at hl 0 rfl) ?_
  refine lv_iconst (v := 0) hx hb dX12_room_1 (by decide) ?_
  refine g_puti F hB 0 rfl fl_RX12_1 rfl (wd_LongTrainModel_room k a_t d_t (upd i_t 0 (0 : Int32)) j_t r_t_s r_t_wagons r_t_foremost r_t_bears) rfl dX12_room_2 (fun H locs hB => ?_)
  refine lv_aload_n hx hb dX12_room_5 rfl (lv_at hl 0 rfl) ?_
  refine lv_iload_n hx hb dX12_room_6 rfl (lv_at hl 1 rfl) ?_
  refine k_vi (wr := [((d_t 22), ai k 20 r_t_wagons), ((d_t 23), ai k 20 r_t_foremost), ((d_t 24), ai k 20 r_t_bears)]) (rest := []) F hA hB (c_LongTrainModel_isHalt l D k a_t d_t (upd i_t 0 (0 : Int32)) j_t r_t_s n1 _  hf) ml_RX12_258 mv_yX12_isHalt [0, 1] [2, 3, 4] rfl rfl (by decide) (by decide) (by decide) 0 rfl rfl rfl hl.1 rfl (Nat.le_of_ble_eq_true rfl) ⟨Nat.le_of_ble_eq_true rfl, Nat.le_of_ble_eq_true rfl⟩ ⟨Nat.le_of_ble_eq_true rfl, Nat.le_of_ble_eq_true rfl⟩ dX12_room_7 (fun z_1 w1 H locs hq hB => ?_)
  obtain ⟨h_2, rfl, hf⟩ := hq
  replace hB : Bd D A s.heap (wd_LongTrainModel_room k a_t d_t (upd i_t 0 (0 : Int32)) j_t r_t_s r_t_wagons r_t_foremost r_t_bears) H locs := hB.sub [3, 4, 0, 1, 2] (by decide) rfl
  refine lv_if_ne (tgt := 15) hx hb dX12_room_10 (by decide) (fun c_13 => ?_) (fun c_13 => ?_)
  · replace hf := hf.1 c_13
    refine lv_aload_n hx hb dX12_room_15 rfl (lv_at hl 0 rfl) ?_
    refine lv_aload_n hx hb dX12_room_16 rfl (lv_at hl 0 rfl) ?_
    refine lv_iload_n hx hb dX12_room_17 rfl (lv_at hl 1 rfl) ?_
    refine k_vi (wr := [((d_t 22), ai k 20 r_t_wagons), ((d_t 23), ai k 20 r_t_foremost), ((d_t 24), ai k 20 r_t_bears)]) (rest := [.ref a_t]) F hA hB (c_LongTrainModel_haltAt l D k a_t d_t (upd i_t 0 (0 : Int32)) j_t r_t_s n1 _  hf) ml_RX12_261 mv_yX12_haltAt [0, 1] [2, 3, 4] rfl rfl (by decide) (by decide) (by decide) 0 rfl rfl rfl hl.1 rfl (Nat.le_of_ble_eq_true rfl) ⟨Nat.le_of_ble_eq_true rfl, Nat.le_of_ble_eq_true rfl⟩ ⟨Nat.le_of_ble_eq_true rfl, Nat.le_of_ble_eq_true rfl⟩ dX12_room_18 (fun z_3 w1 H locs hq hB => ?_)
    obtain ⟨rfl, hf⟩ := hq
    replace hB : Bd D A s.heap (wd_LongTrainModel_room k a_t d_t (upd i_t 0 (0 : Int32)) j_t r_t_s r_t_wagons r_t_foremost r_t_bears) H locs := hB.sub [3, 4, 0, 1, 2] (by decide) rfl
    refine k_vv (wr := []) (rest := []) F hA hB (c_LongTrainModel_freeAt l D k a_t d_t (upd i_t 0 (0 : Int32)) j_t r_t_s r_t_wagons r_t_foremost r_t_bears z_3 _  hf) ml_RX12_288 mv_yX12_freeAt [0, 1, 2, 3, 4] [] rfl rfl (by decide) (by decide) (by decide) 0 rfl rfl rfl hl.1 rfl (Nat.le_of_ble_eq_true rfl) ⟨Nat.le_of_ble_eq_true rfl, Nat.le_of_ble_eq_true rfl⟩ ⟨Nat.le_of_ble_eq_true rfl, Nat.le_of_ble_eq_true rfl⟩ dX12_room_21 (fun w1 H locs hq hB => ?_)
    obtain ⟨i_t_4, r_t_wagons_5, r_t_foremost_6, r_t_bears_7, rfl, hf⟩ := hq
    replace hB : Bd D A s.heap (wd_LongTrainModel_room k a_t d_t i_t_4 j_t r_t_s r_t_wagons_5 r_t_foremost_6 r_t_bears_7) H locs := hB.sub [0, 1, 2, 3, 4] (by decide) rfl
    refine lv_aload_n hx hb dX12_room_24 rfl (lv_at hl 0 rfl) ?_
    refine g_get (w := .int (i_t_4 27)) F hB 0 rfl fl_RX12_270 rfl dX12_room_25 ?_
    refine lv_if_ne (tgt := 35) hx hb dX12_room_28 (by decide) (fun c_12 => ?_) (fun c_12 => ?_)
    · replace hf := hf.1 c_12
      refine lv_aload_n hx hb dX12_room_35 rfl (lv_at hl 0 rfl) ?_
      refine lv_iload_n hx hb dX12_room_36 rfl (lv_at hl 1 rfl) ?_
      refine k_vi (wr := [((d_t 22), ai k 20 r_t_wagons_5), ((d_t 23), ai k 20 r_t_foremost_6), ((d_t 24), ai k 20 r_t_bears_7)]) (rest := []) F hA hB (c_LongTrainModel_haltAt l D k a_t d_t i_t_4 j_t r_t_s n1 _  hf) ml_RX12_261 mv_yX12_haltAt [0, 1] [2, 3, 4] rfl rfl (by decide) (by decide) (by decide) 0 rfl rfl rfl hl.1 rfl (Nat.le_of_ble_eq_true rfl) ⟨Nat.le_of_ble_eq_true rfl, Nat.le_of_ble_eq_true rfl⟩ ⟨Nat.le_of_ble_eq_true rfl, Nat.le_of_ble_eq_true rfl⟩ dX12_room_37 (fun z_8 w1 H locs hq hB => ?_)
      obtain ⟨rfl, hf⟩ := hq
      replace hB : Bd D A s.heap (wd_LongTrainModel_room k a_t d_t i_t_4 j_t r_t_s r_t_wagons_5 r_t_foremost_6 r_t_bears_7) H locs := hB.sub [3, 4, 0, 1, 2] (by decide) rfl
      refine lv_aload_n hx hb dX12_room_40 rfl (lv_at hl 0 rfl) ?_
      refine g_get (w := .ref (d_t 23)) F hB 0 rfl fl_RX12_53 rfl dX12_room_41 ?_
      refine lv_aload_n hx hb dX12_room_44 rfl (lv_at hl 0 rfl) ?_
      refine g_get (w := .int (i_t_4 27)) F hB 0 rfl fl_RX12_270 rfl dX12_room_45 ?_
      refine lv_iconst (v := 1) hx hb dX12_room_48 (by decide) ?_
      refine lv_isub hx hb dX12_room_49 ?_
      obtain ⟨h_9, hf⟩ := hf
      refine g_iald F hB 3 rfl h_9 dX12_room_50 ?_
      refine lv_isub hx hb dX12_room_51 ?_
      refine lv_aload_n hx hb dX12_room_52 rfl (lv_at hl 0 rfl) ?_
      refine lv_aload_n hx hb dX12_room_53 rfl (lv_at hl 0 rfl) ?_
      refine g_get (w := .ref (d_t 22)) F hB 0 rfl fl_RX12_50 rfl dX12_room_54 ?_
      refine lv_aload_n hx hb dX12_room_57 rfl (lv_at hl 0 rfl) ?_
      refine g_get (w := .int (i_t_4 27)) F hB 0 rfl fl_RX12_270 rfl dX12_room_58 ?_
      refine lv_iconst (v := 1) hx hb dX12_room_61 (by decide) ?_
      refine lv_isub hx hb dX12_room_62 ?_
      obtain ⟨h_10, hf⟩ := hf
      refine g_iald F hB 2 rfl h_10 dX12_room_63 ?_
      refine k_vi (wr := [((d_t 22), ai k 20 r_t_wagons_5), ((d_t 23), ai k 20 r_t_foremost_6), ((d_t 24), ai k 20 r_t_bears_7)]) (rest := [.int (z_8 - (r_t_foremost_6 (((i_t_4 27) - (1 : Int32))).toNatClampNeg))]) F hA hB (c_LongTrainModel_longOf l D k a_t d_t i_t_4 j_t r_t_s (r_t_wagons_5 (((i_t_4 27) - (1 : Int32))).toNatClampNeg) _  hf) ml_RX12_273 mv_yX12_longOf [0, 1] [2, 3, 4] rfl rfl (by decide) (by decide) (by decide) 0 rfl rfl rfl hl.1 rfl (Nat.le_of_ble_eq_true rfl) ⟨Nat.le_of_ble_eq_true rfl, Nat.le_of_ble_eq_true rfl⟩ ⟨Nat.le_of_ble_eq_true rfl, Nat.le_of_ble_eq_true rfl⟩ dX12_room_64 (fun z_11 w1 H locs hq hB => ?_)
      obtain ⟨rfl, hf⟩ := hq
      replace hB : Bd D A s.heap (wd_LongTrainModel_room k a_t d_t i_t_4 j_t r_t_s r_t_wagons_5 r_t_foremost_6 r_t_bears_7) H locs := hB.sub [3, 4, 0, 1, 2] (by decide) rfl
      refine lv_iadd hx hb dX12_room_67 ?_
      exact r_i F hr hlk hB ⟨_, _, _, _, rfl, hf⟩ dX12_room_68
    · replace hf := hf.2 c_12
      refine lv_iconst (v := 0) hx hb dX12_room_31 (by decide) ?_
      refine lv_goto (tgt := 68) hx hb dX12_room_32 (by decide) ?_
      exact r_i F hr hlk hB ⟨_, _, _, _, rfl, hf⟩ dX12_room_68
  · replace hf := hf.2 c_13
    refine lv_iconst (v := -1) hx hb dX12_room_13 (by decide) ?_
    exact r_i F hr hlk hB ⟨_, _, _, _, rfl, hf⟩ dX12_room_14

/-! LongTrainModel.withAt -/
set_option maxRecDepth 100000 in
set_option maxHeartbeats 4000000 in
theorem c_LongTrainModel_withAt (l : Launch) (D : va_G) (k : Nat → ClassId) (a_t : Nat) (d_t : Nat → Nat) (i_t : Nat → Int32) (j_t : Nat → Int64) (r_t_s : Nat → Int32) (r_t_wagons : Nat → Int32) (r_t_foremost : Nat → Int32) (r_t_bears : Nat → Int32) (n1 : Int32) (Q : (Nat → Int32) → (Nat → Int32) → (Nat → Int32) → (Nat → Int32) → Prop)  (hf : w_LongTrainModel_withAt i_t r_t_s r_t_wagons r_t_foremost r_t_bears n1 Q) : CtV l yX12_withAt cX12_withAt 2 none 2 45 0 0 D k [.ref a_t, .int n1] (wd_LongTrainModel_withAt k a_t d_t i_t j_t r_t_s r_t_wagons r_t_foremost r_t_bears) (fun w => ∃ (i_t : Nat → Int32), ∃ (r_t_wagons : Nat → Int32), ∃ (r_t_foremost : Nat → Int32), ∃ (r_t_bears : Nat → Int32), w = (wd_LongTrainModel_withAt k a_t d_t i_t j_t r_t_s r_t_wagons r_t_foremost r_t_bears) ∧ Q i_t r_t_wagons r_t_foremost r_t_bears) := by
  refine CtV.of (by decide) (Nat.le_of_ble_eq_true rfl) ?_
  intro p e s m below meth c A F hr hlk hnm hA hB ls hl
  have hx := F.x
  have hb := F.b
  unfold w_LongTrainModel_withAt at hf
  replace hl : lv_has ls 2 [(0, .ref a_t), (1, .int n1)] := hl
  refine lv_aload_n hx hb dX12_withAt_0 rfl (lv_at hl 0 rfl) ?_
  refine lv_iload_n hx hb dX12_withAt_1 rfl (lv_at hl 1 rfl) ?_
  refine k_vv (wr := [((d_t 23), ai k 20 r_t_foremost), ((d_t 24), ai k 20 r_t_bears)]) (rest := []) F hA hB (c_LongTrainModel_free l D k a_t d_t i_t j_t r_t_s r_t_wagons n1 _  hf) ml_RX12_282 mv_yX12_free [0, 1, 2] [3, 4] rfl rfl (by decide) (by decide) (by decide) 0 rfl rfl rfl hl.1 rfl (Nat.le_of_ble_eq_true rfl) ⟨Nat.le_of_ble_eq_true rfl, Nat.le_of_ble_eq_true rfl⟩ ⟨Nat.le_of_ble_eq_true rfl, Nat.le_of_ble_eq_true rfl⟩ dX12_withAt_2 (fun w1 H locs hq hB => ?_)
  obtain ⟨i_t_1, r_t_wagons_2, rfl, hf⟩ := hq
  replace hB : Bd D A s.heap (wd_LongTrainModel_withAt k a_t d_t i_t_1 j_t r_t_s r_t_wagons_2 r_t_foremost r_t_bears) H locs := hB.sub [2, 3, 4, 0, 1] (by decide) rfl
  refine lv_aload_n hx hb dX12_withAt_5 rfl (lv_at hl 0 rfl) ?_
  refine lv_iload_n hx hb dX12_withAt_6 rfl (lv_at hl 1 rfl) ?_
  refine k_vv (wr := []) (rest := []) F hA hB (c_LongTrainModel_stands l D k a_t d_t i_t_1 j_t r_t_foremost r_t_wagons_2 r_t_s r_t_bears n1 _  hf) ml_RX12_285 mv_yX12_stands [0, 3, 2, 1, 4] [] rfl rfl (by decide) (by decide) (by decide) 0 rfl rfl rfl hl.1 rfl (Nat.le_of_ble_eq_true rfl) ⟨Nat.le_of_ble_eq_true rfl, Nat.le_of_ble_eq_true rfl⟩ ⟨Nat.le_of_ble_eq_true rfl, Nat.le_of_ble_eq_true rfl⟩ dX12_withAt_7 (fun w1 H locs hq hB => ?_)
  obtain ⟨i_t_3, r_t_foremost_4, r_t_bears_5, rfl, hf⟩ := hq
  replace hB : Bd D A s.heap (wd_LongTrainModel_withAt k a_t d_t i_t_3 j_t r_t_s r_t_wagons_2 r_t_foremost_4 r_t_bears_5) H locs := hB.sub [0, 3, 2, 1, 4] (by decide) rfl
  exact r_v F hr hlk hB ⟨_, _, _, _, rfl, hf⟩ dX12_withAt_10

/-! LongTrainModel.mayPass -/
set_option maxRecDepth 100000 in
set_option maxHeartbeats 4000000 in
theorem c_LongTrainModel_mayPass (l : Launch) (D : va_G) (k : Nat → ClassId) (a_t : Nat) (d_t : Nat → Nat) (i_t : Nat → Int32) (j_t : Nat → Int64) (r_t_bears : Nat → Int32) (r_t_wagons : Nat → Int32) (r_t_s : Nat → Int32) (n1 : Int32) (Q : Int32 → Prop)  (hf : w_LongTrainModel_mayPass r_t_bears r_t_wagons r_t_s n1 Q) : CtI l yX12_mayPass cX12_mayPass 2 (some .boolean) 1 21 0 0 D k [.ref a_t, .int n1] (wd_LongTrainModel_mayPass k a_t d_t i_t j_t r_t_bears r_t_wagons r_t_s) (fun r w => (r = 0 ∨ r = 1) ∧ (w = (wd_LongTrainModel_mayPass k a_t d_t i_t j_t r_t_bears r_t_wagons r_t_s) ∧ Q r)) := by
  refine CtI.of (by decide) (Nat.le_of_ble_eq_true rfl) ?_
  intro p e s m below meth c A F hr hlk hnm hA hB ls hl
  have hx := F.x
  have hb := F.b
  unfold w_LongTrainModel_mayPass at hf
  replace hl : lv_has ls 2 [(0, .ref a_t), (1, .int n1)] := hl
  refine lv_aload_n hx hb dX12_mayPass_0 rfl (lv_at hl 0 rfl) ?_
  refine g_get (w := .ref (d_t 24)) F hB 0 rfl fl_RX12_56 rfl dX12_mayPass_1 ?_
  refine lv_iload_n hx hb dX12_mayPass_4 rfl (lv_at hl 1 rfl) ?_
  obtain ⟨h_1, hf⟩ := hf
  refine g_iald F hB 1 rfl h_1 dX12_mayPass_5 ?_
  refine lv_aload_n hx hb dX12_mayPass_6 rfl (lv_at hl 0 rfl) ?_
  refine lv_aload_n hx hb dX12_mayPass_7 rfl (lv_at hl 0 rfl) ?_
  refine g_get (w := .ref (d_t 22)) F hB 0 rfl fl_RX12_50 rfl dX12_mayPass_8 ?_
  refine lv_iload_n hx hb dX12_mayPass_11 rfl (lv_at hl 1 rfl) ?_
  obtain ⟨h_2, hf⟩ := hf
  refine g_iald F hB 2 rfl h_2 dX12_mayPass_12 ?_
  refine k_vi (wr := [((d_t 24), ai k 20 r_t_bears), ((d_t 22), ai k 20 r_t_wagons)]) (rest := [.int (r_t_bears (n1).toNatClampNeg)]) F hA hB (c_LongTrainModel_strengthOf l D k a_t d_t i_t j_t r_t_s (r_t_wagons (n1).toNatClampNeg) _  hf) ml_RX12_312 mv_yX12_strengthOf [0, 3] [1, 2] rfl rfl (by decide) (by decide) (by decide) 0 rfl rfl rfl hl.1 rfl (Nat.le_of_ble_eq_true rfl) ⟨Nat.le_of_ble_eq_true rfl, Nat.le_of_ble_eq_true rfl⟩ ⟨Nat.le_of_ble_eq_true rfl, Nat.le_of_ble_eq_true rfl⟩ dX12_mayPass_13 (fun z_3 w1 H locs hq hB => ?_)
  obtain ⟨rfl, hf⟩ := hq
  replace hB : Bd D A s.heap (wd_LongTrainModel_mayPass k a_t d_t i_t j_t r_t_bears r_t_wagons r_t_s) H locs := hB.sub [2, 0, 1, 3] (by decide) rfl
  refine lv_iconst (v := 2) hx hb dX12_mayPass_16 (by decide) ?_
  refine lv_idiv hx hb dX12_mayPass_17 (by decide) ?_
  refine lv_icmp_gt (tgt := 25) hx hb dX12_mayPass_18 (by decide) (fun c_4 => ?_) (fun c_4 => ?_)
  · replace hf := hf.1 c_4
    refine lv_iconst (v := 0) hx hb dX12_mayPass_25 (by decide) ?_
    exact r_z F hr hlk hB (Or.inl rfl) ⟨Or.inl rfl, rfl, hf⟩ dX12_mayPass_26
  · replace hf := hf.2 c_4
    refine lv_iconst (v := 1) hx hb dX12_mayPass_21 (by decide) ?_
    refine lv_goto (tgt := 26) hx hb dX12_mayPass_22 (by decide) ?_
    exact r_z F hr hlk hB (Or.inr rfl) ⟨Or.inr rfl, rfl, hf⟩ dX12_mayPass_26

/-! LongTrainModel.isWalk -/
set_option maxRecDepth 100000 in
set_option maxHeartbeats 4000000 in
theorem c_LongTrainModel_isWalk (l : Launch) (D : va_G) (k : Nat → ClassId) (a_t : Nat) (d_t : Nat → Nat) (i_t : Nat → Int32) (j_t : Nat → Int64) (r_t_s : Nat → Int32) (r_t_wagons : Nat → Int32) (n1 : Int32) (n2 : Int32) (n3 : Int32) (Q : Int32 → (Nat → Int32) → (Nat → Int32) → Prop)  (hf : w_LongTrainModel_isWalk i_t r_t_s r_t_wagons n1 n2 n3 Q) : CtI l yX12_isWalk cX12_isWalk 4 (some .boolean) 2 44 0 0 D k [.ref a_t, .int n1, .int n2, .int n3] (wd_LongTrainModel_isWalk k a_t d_t i_t j_t r_t_s r_t_wagons) (fun r w => (r = 0 ∨ r = 1) ∧ (∃ (i_t : Nat → Int32), ∃ (r_t_wagons : Nat → Int32), w = (wd_LongTrainModel_isWalk k a_t d_t i_t j_t r_t_s r_t_wagons) ∧ Q r i_t r_t_wagons)) := by
  refine CtI.of (by decide) (Nat.le_of_ble_eq_true rfl) ?_
  intro p e s m below meth c A F hr hlk hnm hA hB ls hl
  have hx := F.x
  have hb := F.b
  unfold w_LongTrainModel_isWalk at hf
  replace hl : lv_has ls 4 [(0, .ref a_t), (1, .int n1), (2, .int n2), (3, .int n3)] := hl
  refine lv_aload_n hx hb dX12_isWalk_0 rfl (lv_at hl 0 rfl) ?_
  refine lv_iload_n hx hb dX12_isWalk_1 rfl (lv_at hl 3 rfl) ?_
  refine k_vi (wr := [((d_t 22), ai k 20 r_t_wagons)]) (rest := []) F hA hB (c_LongTrainModel_isUnit l D k a_t d_t i_t j_t r_t_s n3 _  hf) ml_RX12_291 mv_yX12_isUnit [0, 1] [2] rfl rfl (by decide) (by decide) (by decide) 0 rfl rfl rfl hl.1 rfl (Nat.le_of_ble_eq_true rfl) ⟨Nat.le_of_ble_eq_true rfl, Nat.le_of_ble_eq_true rfl⟩ ⟨Nat.le_of_ble_eq_true rfl, Nat.le_of_ble_eq_true rfl⟩ dX12_isWalk_2 (fun z_1 w1 H locs hq hB => ?_)
  obtain ⟨h_2, rfl, hf⟩ := hq
  replace hB : Bd D A s.heap (wd_LongTrainModel_isWalk k a_t d_t i_t j_t r_t_s r_t_wagons) H locs := hB.sub [1, 2, 0] (by decide) rfl
  refine lv_if_ne (tgt := 10) hx hb dX12_isWalk_5 (by decide) (fun c_8 => ?_) (fun c_8 => ?_)
  · replace hf := hf.1 c_8
    refine lv_aload_n hx hb dX12_isWalk_10 rfl (lv_at hl 0 rfl) ?_
    refine lv_iload_n hx hb dX12_isWalk_11 rfl (lv_at hl 3 rfl) ?_
    refine k_vv (wr := []) (rest := []) F hA hB (c_LongTrainModel_free l D k a_t d_t i_t j_t r_t_s r_t_wagons n3 _  hf) ml_RX12_282 mv_yX12_free [0, 1, 2] [] rfl rfl (by decide) (by decide) (by decide) 0 rfl rfl rfl hl.1 rfl (Nat.le_of_ble_eq_true rfl) ⟨Nat.le_of_ble_eq_true rfl, Nat.le_of_ble_eq_true rfl⟩ ⟨Nat.le_of_ble_eq_true rfl, Nat.le_of_ble_eq_true rfl⟩ dX12_isWalk_12 (fun w1 H locs hq hB => ?_)
    obtain ⟨i_t_3, r_t_wagons_4, rfl, hf⟩ := hq
    replace hB : Bd D A s.heap (wd_LongTrainModel_isWalk k a_t d_t i_t_3 j_t r_t_s r_t_wagons_4) H locs := hB.sub [0, 1, 2] (by decide) rfl
    refine lv_iload_n hx hb dX12_isWalk_15 rfl (lv_at hl 1 rfl) ?_
    refine lv_if_lt (tgt := 36) hx hb dX12_isWalk_16 (by decide) (fun c_7 => ?_) (fun c_7 => ?_)
    · replace hf := hf.1 c_7
      refine lv_iconst (v := 0) hx hb dX12_isWalk_36 (by decide) ?_
      exact r_z F hr hlk hB (Or.inl rfl) ⟨Or.inl rfl, _, _, rfl, hf⟩ dX12_isWalk_37
    · replace hf := hf.2 c_7
      refine lv_iload_n hx hb dX12_isWalk_19 rfl (lv_at hl 1 rfl) ?_
      refine lv_iload_n hx hb dX12_isWalk_20 rfl (lv_at hl 2 rfl) ?_
      refine lv_icmp_gt (tgt := 36) hx hb dX12_isWalk_21 (by decide) (fun c_6 => ?_) (fun c_6 => ?_)
      · replace hf := hf.1 c_6
        refine lv_iconst (v := 0) hx hb dX12_isWalk_36 (by decide) ?_
        exact r_z F hr hlk hB (Or.inl rfl) ⟨Or.inl rfl, _, _, rfl, hf⟩ dX12_isWalk_37
      · replace hf := hf.2 c_6
        refine lv_iload_n hx hb dX12_isWalk_24 rfl (lv_at hl 2 rfl) ?_
        refine lv_aload_n hx hb dX12_isWalk_25 rfl (lv_at hl 0 rfl) ?_
        refine g_get (w := .int (i_t_3 27)) F hB 0 rfl fl_RX12_270 rfl dX12_isWalk_26 ?_
        refine lv_icmp_ge (tgt := 36) hx hb dX12_isWalk_29 (by decide) (fun c_5 => ?_) (fun c_5 => ?_)
        · replace hf := hf.1 c_5
          refine lv_iconst (v := 0) hx hb dX12_isWalk_36 (by decide) ?_
          exact r_z F hr hlk hB (Or.inl rfl) ⟨Or.inl rfl, _, _, rfl, hf⟩ dX12_isWalk_37
        · replace hf := hf.2 c_5
          refine lv_iconst (v := 1) hx hb dX12_isWalk_32 (by decide) ?_
          refine lv_goto (tgt := 37) hx hb dX12_isWalk_33 (by decide) ?_
          exact r_z F hr hlk hB (Or.inr rfl) ⟨Or.inr rfl, _, _, rfl, hf⟩ dX12_isWalk_37
  · replace hf := hf.2 c_8
    refine lv_iconst (v := 0) hx hb dX12_isWalk_8 (by decide) ?_
    exact r_z F hr hlk hB (Or.inl rfl) ⟨Or.inl rfl, _, _, rfl, hf⟩ dX12_isWalk_9

/-! LongTrainModel.cook -/
set_option maxRecDepth 100000 in
set_option maxHeartbeats 4000000 in
theorem jt_LongTrainModel_cook_96 {p : Program} {l : Launch} {e : Env} {s : State} {m : MethodId} {below : List Frame} {meth : Method} {c : Code} {A : Nat → Prop} {D : va_G} {k : Nat → ClassId} {a_t : Nat} {d_t : Nat → Nat} {i_t : Nat → Int32} {j_t : Nat → Int64} {r_t_s : Nat → Int32} {r_t_wagons : Nat → Int32} {r_t_foremost : Nat → Int32} {r_t_bears : Nat → Int32} {n1 : Int32} {n2 : Int32} {n3 : Int32} {Q : Int32 → (Nat → Int32) → (Nat → Int32) → (Nat → Int32) → (Nat → Int32) → Prop}  {x2 : Int32} {x6 : Int32} {x7 : Int32} {kr_73 : (Int32) → (Int32) → (Int32) → (Int32) → Prop} (F : Fx p m c cX12_cook 10 s ([.ref a_t, .int n1, .int n2, .int n3] : List Value).toArray RX12 D k) (hr : meth.sig.returnType = (some .int)) (hlk : meth.locks = false) (hA : ∀ q : Nat, s.heap.size ≤ q → A q) (hkr_73 : ∀ (x4 : Int32) (x5 : Int32) (x8 : Int32) (x9 : Int32) (H : Heap) (locs : List Loc) (ls : Array Slot), kr_73 x4 x5 x8 x9 → Bd D A s.heap (wd_LongTrainModel_cook k a_t d_t i_t j_t r_t_s r_t_wagons r_t_foremost r_t_bears) H locs → lv_has ls 10 [(0, .ref a_t), (2, .int x2), (4, .int x4), (5, .int x5), (6, .int x6), (7, .int x7), (8, .int x8), (9, .int x9)] → W p l e { frames := 3, cells := 0, slots := 0, locals := 67 } s m ([.ref a_t, .int n1, .int n2, .int n3] : List Value).toArray below meth c H locs 0 0 (Ei below (fun r w => ∃ (i_t : Nat → Int32), ∃ (r_t_wagons : Nat → Int32), ∃ (r_t_foremost : Nat → Int32), ∃ (r_t_bears : Nat → Int32), w = (wd_LongTrainModel_cook k a_t d_t i_t j_t r_t_s r_t_wagons r_t_foremost r_t_bears) ∧ Q r i_t r_t_wagons r_t_foremost r_t_bears) D k A ([.ref a_t, .int n1, .int n2, .int n3] : List Value).toArray s 0 0) (F0 m 73 ls [])) :
    ∀ (x4 : Int32) (x5 : Int32) (x8 : Int32) (y0 : Int32) (H : Heap) (locs : List Loc) (ls : Array Slot), j_LongTrainModel_cook_96 r_t_s r_t_wagons r_t_bears x4 x5 x8 y0 kr_73 → Bd D A s.heap (wd_LongTrainModel_cook k a_t d_t i_t j_t r_t_s r_t_wagons r_t_foremost r_t_bears) H locs → lv_has ls 10 [(0, .ref a_t), (2, .int x2), (4, .int x4), (5, .int x5), (6, .int x6), (7, .int x7), (8, .int x8)] → W p l e { frames := 3, cells := 0, slots := 0, locals := 67 } s m ([.ref a_t, .int n1, .int n2, .int n3] : List Value).toArray below meth c H locs 0 0 (Ei below (fun r w => ∃ (i_t : Nat → Int32), ∃ (r_t_wagons : Nat → Int32), ∃ (r_t_foremost : Nat → Int32), ∃ (r_t_bears : Nat → Int32), w = (wd_LongTrainModel_cook k a_t d_t i_t j_t r_t_s r_t_wagons r_t_foremost r_t_bears) ∧ Q r i_t r_t_wagons r_t_foremost r_t_bears) D k A ([.ref a_t, .int n1, .int n2, .int n3] : List Value).toArray s 0 0) (F0 m 96 ls [.int y0]) := by
  have hx := F.x
  have hb := F.b
  intro x4 x5 x8 y0 H locs ls hf hB hl
  unfold j_LongTrainModel_cook_96 at hf
  refine lv_istore (lv' := [(9, .int y0), (0, .ref a_t), (2, .int x2), (4, .int x4), (5, .int x5), (6, .int x6), (7, .int x7), (8, .int x8)]) hx hb dX12_cook_96 hl (by decide) rfl (fun ls hl => ?_)
  refine lv_iload hx hb dX12_cook_98 (lv_at hl 0 rfl) ?_
  refine lv_if_ne (tgt := 113) hx hb dX12_cook_100 (by decide) (fun c_18 => ?_) (fun c_18 => ?_)
  · replace hf := hf.1 c_18
    refine lv_iload hx hb dX12_cook_113 (lv_at hl 7 rfl) ?_
    refine lv_iload hx hb dX12_cook_115 (lv_at hl 4 rfl) ?_
    refine lv_isub hx hb dX12_cook_117 ?_
    refine lv_istore (lv' := [(8, .int (x8 - x5)), (9, .int y0), (0, .ref a_t), (2, .int x2), (4, .int x4), (5, .int x5), (6, .int x6), (7, .int x7)]) hx hb dX12_cook_118 hl (by decide) rfl (fun ls hl => ?_)
    refine lv_iconst (v := 0) hx hb dX12_cook_120 (by decide) ?_
    refine lv_istore (lv' := [(5, .int (0 : Int32)), (8, .int (x8 - x5)), (9, .int y0), (0, .ref a_t), (2, .int x2), (4, .int x4), (6, .int x6), (7, .int x7)]) hx hb dX12_cook_121 hl (by decide) rfl (fun ls hl => ?_)
    refine lv_aload_n hx hb dX12_cook_123 rfl (lv_at hl 3 rfl) ?_
    refine lv_iload hx hb dX12_cook_124 (lv_at hl 5 rfl) ?_
    refine lv_iconst (v := 1) hx hb dX12_cook_126 (by decide) ?_
    refine lv_iadd hx hb dX12_cook_127 ?_
    refine k_vi (wr := [((d_t 23), ai k 20 r_t_foremost)]) (rest := []) F hA hB (c_LongTrainModel_mayPass l D k a_t d_t i_t j_t r_t_bears r_t_wagons r_t_s (x4 + (1 : Int32)) _  hf) ml_RX12_354 mv_yX12_mayPass [0, 4, 2, 1] [3] rfl rfl (by decide) (by decide) (by decide) 0 rfl rfl rfl hl.1 rfl (Nat.le_of_ble_eq_true rfl) ⟨Nat.le_of_ble_eq_true rfl, Nat.le_of_ble_eq_true rfl⟩ ⟨Nat.le_of_ble_eq_true rfl, Nat.le_of_ble_eq_true rfl⟩ dX12_cook_128 (fun z_13 w1 H locs hq hB => ?_)
    obtain ⟨h_14, rfl, hf⟩ := hq
    replace hB : Bd D A s.heap (wd_LongTrainModel_cook k a_t d_t i_t j_t r_t_s r_t_wagons r_t_foremost r_t_bears) H locs := hB.sub [1, 4, 3, 0, 2] (by decide) rfl
    refine lv_istore (lv' := [(9, .int z_13), (5, .int (0 : Int32)), (8, .int (x8 - x5)), (0, .ref a_t), (2, .int x2), (4, .int x4), (6, .int x6), (7, .int x7)]) hx hb dX12_cook_131 hl (by decide) rfl (fun ls hl => ?_)
    refine lv_iload hx hb dX12_cook_133 (lv_at hl 0 rfl) ?_
    refine lv_if_eq (tgt := 73) hx hb dX12_cook_135 (by decide) (fun c_17 => ?_) (fun c_17 => ?_)
    · replace hf := hf.1 c_17
      exact hkr_73 _ _ _ _ _ _ _ hf hB (lv_sub hl [3, 4, 5, 1, 6, 7, 2, 0] rfl)
    · replace hf := hf.2 c_17
      refine lv_iinc (v := (x4 + 1)) (lv' := [(4, .int (x4 + 1)), (9, .int z_13), (5, .int (0 : Int32)), (8, .int (x8 - x5)), (0, .ref a_t), (2, .int x2), (6, .int x6), (7, .int x7)]) (k := 5) hx hb dX12_cook_138 hl rfl rfl (by decide) rfl (fun ls hl => ?_)
      refine lv_aload_n hx hb dX12_cook_141 rfl (lv_at hl 4 rfl) ?_
      refine lv_aload_n hx hb dX12_cook_142 rfl (lv_at hl 4 rfl) ?_
      refine g_get (w := .ref (d_t 22)) F hB 0 rfl fl_RX12_50 rfl dX12_cook_143 ?_
      refine lv_iload hx hb dX12_cook_146 (lv_at hl 0 rfl) ?_
      obtain ⟨h_15, hf⟩ := hf
      refine g_iald F hB 2 rfl h_15 dX12_cook_148 ?_
      refine k_vi (wr := [((d_t 22), ai k 20 r_t_wagons), ((d_t 23), ai k 20 r_t_foremost), ((d_t 24), ai k 20 r_t_bears)]) (rest := []) F hA hB (c_LongTrainModel_longOf l D k a_t d_t i_t j_t r_t_s (r_t_wagons ((x4 + 1)).toNatClampNeg) _  hf) ml_RX12_273 mv_yX12_longOf [0, 1] [2, 3, 4] rfl rfl (by decide) (by decide) (by decide) 0 rfl rfl rfl hl.1 rfl (Nat.le_of_ble_eq_true rfl) ⟨Nat.le_of_ble_eq_true rfl, Nat.le_of_ble_eq_true rfl⟩ ⟨Nat.le_of_ble_eq_true rfl, Nat.le_of_ble_eq_true rfl⟩ dX12_cook_149 (fun z_16 w1 H locs hq hB => ?_)
      obtain ⟨rfl, hf⟩ := hq
      replace hB : Bd D A s.heap (wd_LongTrainModel_cook k a_t d_t i_t j_t r_t_s r_t_wagons r_t_foremost r_t_bears) H locs := hB.sub [3, 4, 0, 1, 2] (by decide) rfl
      refine lv_istore (lv' := [(5, .int z_16), (4, .int (x4 + 1)), (9, .int z_13), (8, .int (x8 - x5)), (0, .ref a_t), (2, .int x2), (6, .int x6), (7, .int x7)]) hx hb dX12_cook_152 hl (by decide) rfl (fun ls hl => ?_)
      refine lv_goto (tgt := 73) hx hb dX12_cook_154 (by decide) ?_
      exact hkr_73 _ _ _ _ _ _ _ hf hB (lv_sub hl [4, 5, 1, 0, 6, 7, 3, 2] rfl)
  · replace hf := hf.2 c_18
    refine lv_iload hx hb dX12_cook_103 (lv_at hl 4 rfl) ?_
    refine lv_iload hx hb dX12_cook_105 (lv_at hl 7 rfl) ?_
    refine lv_isub hx hb dX12_cook_107 ?_
    refine lv_istore (lv' := [(5, .int (x5 - x8)), (9, .int y0), (0, .ref a_t), (2, .int x2), (4, .int x4), (6, .int x6), (7, .int x7), (8, .int x8)]) hx hb dX12_cook_108 hl (by decide) rfl (fun ls hl => ?_)
    refine lv_goto (tgt := 73) hx hb dX12_cook_110 (by decide) ?_
    exact hkr_73 _ _ _ _ _ _ _ hf hB (lv_sub hl [2, 3, 4, 0, 5, 6, 7, 1] rfl)

set_option maxRecDepth 100000 in
set_option maxHeartbeats 4000000 in
theorem bt_LongTrainModel_cook_73 {p : Program} {l : Launch} {e : Env} {s : State} {m : MethodId} {below : List Frame} {meth : Method} {c : Code} {A : Nat → Prop} {D : va_G} {k : Nat → ClassId} {a_t : Nat} {d_t : Nat → Nat} {i_t : Nat → Int32} {j_t : Nat → Int64} {r_t_s : Nat → Int32} {r_t_wagons : Nat → Int32} {r_t_foremost : Nat → Int32} {r_t_bears : Nat → Int32} {n1 : Int32} {n2 : Int32} {n3 : Int32} {Q : Int32 → (Nat → Int32) → (Nat → Int32) → (Nat → Int32) → (Nat → Int32) → Prop}  {x2 : Int32} {x6 : Int32} {x7 : Int32} {kx_73 : (Int32) → (Int32) → Prop} {kr_73 : (Int32) → (Int32) → (Int32) → (Int32) → Prop} (F : Fx p m c cX12_cook 10 s ([.ref a_t, .int n1, .int n2, .int n3] : List Value).toArray RX12 D k) (hr : meth.sig.returnType = (some .int)) (hlk : meth.locks = false) (hA : ∀ q : Nat, s.heap.size ≤ q → A q) (hkx_73 : ∀ (x4 : Int32) (x5 : Int32) (H : Heap) (locs : List Loc) (ls : Array Slot), kx_73 x4 x5 → Bd D A s.heap (wd_LongTrainModel_cook k a_t d_t i_t j_t r_t_s r_t_wagons r_t_foremost r_t_bears) H locs → lv_has ls 10 [(0, .ref a_t), (2, .int x2), (4, .int x4), (5, .int x5), (6, .int x6), (7, .int x7)] → W p l e { frames := 3, cells := 0, slots := 0, locals := 67 } s m ([.ref a_t, .int n1, .int n2, .int n3] : List Value).toArray below meth c H locs 0 0 (Ei below (fun r w => ∃ (i_t : Nat → Int32), ∃ (r_t_wagons : Nat → Int32), ∃ (r_t_foremost : Nat → Int32), ∃ (r_t_bears : Nat → Int32), w = (wd_LongTrainModel_cook k a_t d_t i_t j_t r_t_s r_t_wagons r_t_foremost r_t_bears) ∧ Q r i_t r_t_wagons r_t_foremost r_t_bears) D k A ([.ref a_t, .int n1, .int n2, .int n3] : List Value).toArray s 0 0) (F0 m 157 ls [])) (hkr_73 : ∀ (x4 : Int32) (x5 : Int32) (x8 : Int32) (x9 : Int32) (H : Heap) (locs : List Loc) (ls : Array Slot), kr_73 x4 x5 x8 x9 → Bd D A s.heap (wd_LongTrainModel_cook k a_t d_t i_t j_t r_t_s r_t_wagons r_t_foremost r_t_bears) H locs → lv_has ls 10 [(0, .ref a_t), (2, .int x2), (4, .int x4), (5, .int x5), (6, .int x6), (7, .int x7), (8, .int x8), (9, .int x9)] → W p l e { frames := 3, cells := 0, slots := 0, locals := 67 } s m ([.ref a_t, .int n1, .int n2, .int n3] : List Value).toArray below meth c H locs 0 0 (Ei below (fun r w => ∃ (i_t : Nat → Int32), ∃ (r_t_wagons : Nat → Int32), ∃ (r_t_foremost : Nat → Int32), ∃ (r_t_bears : Nat → Int32), w = (wd_LongTrainModel_cook k a_t d_t i_t j_t r_t_s r_t_wagons r_t_foremost r_t_bears) ∧ Q r i_t r_t_wagons r_t_foremost r_t_bears) D k A ([.ref a_t, .int n1, .int n2, .int n3] : List Value).toArray s 0 0) (F0 m 73 ls [])) :
    ∀ (x4 : Int32) (x5 : Int32) (x8 : Int32) (x9 : Int32) (H : Heap) (locs : List Loc) (ls : Array Slot), b_LongTrainModel_cook_73 r_t_s r_t_wagons r_t_bears x2 kx_73 kr_73 x4 x5 x8 x9 → Bd D A s.heap (wd_LongTrainModel_cook k a_t d_t i_t j_t r_t_s r_t_wagons r_t_foremost r_t_bears) H locs → lv_has ls 10 [(0, .ref a_t), (2, .int x2), (4, .int x4), (5, .int x5), (6, .int x6), (7, .int x7), (8, .int x8), (9, .int x9)] → W p l e { frames := 3, cells := 0, slots := 0, locals := 67 } s m ([.ref a_t, .int n1, .int n2, .int n3] : List Value).toArray below meth c H locs 0 0 (Ei below (fun r w => ∃ (i_t : Nat → Int32), ∃ (r_t_wagons : Nat → Int32), ∃ (r_t_foremost : Nat → Int32), ∃ (r_t_bears : Nat → Int32), w = (wd_LongTrainModel_cook k a_t d_t i_t j_t r_t_s r_t_wagons r_t_foremost r_t_bears) ∧ Q r i_t r_t_wagons r_t_foremost r_t_bears) D k A ([.ref a_t, .int n1, .int n2, .int n3] : List Value).toArray s 0 0) (F0 m 73 ls []) := by
  have hx := F.x
  have hb := F.b
  intro x4 x5 x8 x9 H locs ls hf hB hl
  unfold b_LongTrainModel_cook_73 at hf
  refine lv_iload hx hb dX12_cook_73 (lv_at hl 7 rfl) ?_
  refine lv_if_eq (tgt := 157) hx hb dX12_cook_75 (by decide) (fun c_21 => ?_) (fun c_21 => ?_)
  · replace hf := hf.1 c_21
    exact hkx_73 _ _ _ _ _ hf hB (lv_sub hl [0, 1, 2, 3, 4, 5] rfl)
  · replace hf := hf.2 c_21
    refine lv_iload hx hb dX12_cook_78 (lv_at hl 2 rfl) ?_
    refine lv_iload_n hx hb dX12_cook_80 rfl (lv_at hl 1 rfl) ?_
    refine lv_icmp_ge (tgt := 157) hx hb dX12_cook_81 (by decide) (fun c_20 => ?_) (fun c_20 => ?_)
    · replace hf := hf.1 c_20
      exact hkx_73 _ _ _ _ _ hf hB (lv_sub hl [0, 1, 2, 3, 4, 5] rfl)
    · replace hf := hf.2 c_20
      refine lv_iload hx hb dX12_cook_84 (lv_at hl 3 rfl) ?_
      refine lv_iload hx hb dX12_cook_86 (lv_at hl 6 rfl) ?_
      refine lv_icmp_gt (tgt := 95) hx hb dX12_cook_88 (by decide) (fun c_19 => ?_) (fun c_19 => ?_)
      · replace hf := hf.1 c_19
        refine lv_iconst (v := 0) hx hb dX12_cook_95 (by decide) ?_
        exact jt_LongTrainModel_cook_96 F hr hlk hA hkr_73 _ _ _ _ _ _ _ hf hB (lv_sub hl [0, 1, 2, 3, 4, 5, 6] rfl)
      · replace hf := hf.2 c_19
        refine lv_iconst (v := 1) hx hb dX12_cook_91 (by decide) ?_
        refine lv_goto (tgt := 96) hx hb dX12_cook_92 (by decide) ?_
        exact jt_LongTrainModel_cook_96 F hr hlk hA hkr_73 _ _ _ _ _ _ _ hf hB (lv_sub hl [0, 1, 2, 3, 4, 5, 6] rfl)

set_option maxRecDepth 100000 in
set_option maxHeartbeats 4000000 in
theorem lt_LongTrainModel_cook_73 {p : Program} {l : Launch} {e : Env} {s : State} {m : MethodId} {below : List Frame} {meth : Method} {c : Code} {A : Nat → Prop} {D : va_G} {k : Nat → ClassId} {a_t : Nat} {d_t : Nat → Nat} {i_t : Nat → Int32} {j_t : Nat → Int64} {r_t_s : Nat → Int32} {r_t_wagons : Nat → Int32} {r_t_foremost : Nat → Int32} {r_t_bears : Nat → Int32} {n1 : Int32} {n2 : Int32} {n3 : Int32} {Q : Int32 → (Nat → Int32) → (Nat → Int32) → (Nat → Int32) → (Nat → Int32) → Prop}  {x2 : Int32} {x6 : Int32} {x7 : Int32} {kx_73 : (Int32) → (Int32) → Prop} (F : Fx p m c cX12_cook 10 s ([.ref a_t, .int n1, .int n2, .int n3] : List Value).toArray RX12 D k) (hr : meth.sig.returnType = (some .int)) (hlk : meth.locks = false) (hA : ∀ q : Nat, s.heap.size ≤ q → A q) (hkx_73 : ∀ (x4 : Int32) (x5 : Int32) (H : Heap) (locs : List Loc) (ls : Array Slot), kx_73 x4 x5 → Bd D A s.heap (wd_LongTrainModel_cook k a_t d_t i_t j_t r_t_s r_t_wagons r_t_foremost r_t_bears) H locs → lv_has ls 10 [(0, .ref a_t), (2, .int x2), (4, .int x4), (5, .int x5), (6, .int x6), (7, .int x7)] → W p l e { frames := 3, cells := 0, slots := 0, locals := 67 } s m ([.ref a_t, .int n1, .int n2, .int n3] : List Value).toArray below meth c H locs 0 0 (Ei below (fun r w => ∃ (i_t : Nat → Int32), ∃ (r_t_wagons : Nat → Int32), ∃ (r_t_foremost : Nat → Int32), ∃ (r_t_bears : Nat → Int32), w = (wd_LongTrainModel_cook k a_t d_t i_t j_t r_t_s r_t_wagons r_t_foremost r_t_bears) ∧ Q r i_t r_t_wagons r_t_foremost r_t_bears) D k A ([.ref a_t, .int n1, .int n2, .int n3] : List Value).toArray s 0 0) (F0 m 157 ls [])) :
    ∀ n : Nat, ∀ (x4 : Int32) (x5 : Int32) (x8 : Int32) (x9 : Int32) (H : Heap) (locs : List Loc) (ls : Array Slot), lp_LongTrainModel_cook_73 r_t_s r_t_wagons r_t_bears x2 kx_73 n x4 x5 x8 x9 → Bd D A s.heap (wd_LongTrainModel_cook k a_t d_t i_t j_t r_t_s r_t_wagons r_t_foremost r_t_bears) H locs → lv_has ls 10 [(0, .ref a_t), (2, .int x2), (4, .int x4), (5, .int x5), (6, .int x6), (7, .int x7), (8, .int x8), (9, .int x9)] → W p l e { frames := 3, cells := 0, slots := 0, locals := 67 } s m ([.ref a_t, .int n1, .int n2, .int n3] : List Value).toArray below meth c H locs 0 0 (Ei below (fun r w => ∃ (i_t : Nat → Int32), ∃ (r_t_wagons : Nat → Int32), ∃ (r_t_foremost : Nat → Int32), ∃ (r_t_bears : Nat → Int32), w = (wd_LongTrainModel_cook k a_t d_t i_t j_t r_t_s r_t_wagons r_t_foremost r_t_bears) ∧ Q r i_t r_t_wagons r_t_foremost r_t_bears) D k A ([.ref a_t, .int n1, .int n2, .int n3] : List Value).toArray s 0 0) (F0 m 73 ls []) := by
  intro n
  induction n with
  | zero => intro x4 x5 x8 x9 H locs ls hf; exact absurd hf (fun h => h)
  | succ n ih => exact bt_LongTrainModel_cook_73 F hr hlk hA hkx_73 ih

set_option maxRecDepth 100000 in
set_option maxHeartbeats 4000000 in
theorem bt_LongTrainModel_cook_38 {p : Program} {l : Launch} {e : Env} {s : State} {m : MethodId} {below : List Frame} {meth : Method} {c : Code} {A : Nat → Prop} {D : va_G} {k : Nat → ClassId} {a_t : Nat} {d_t : Nat → Nat} {j_t : Nat → Int64} {r_t_s : Nat → Int32} {n1 : Int32} {n2 : Int32} {n3 : Int32} {Q : Int32 → (Nat → Int32) → (Nat → Int32) → (Nat → Int32) → (Nat → Int32) → Prop}  {x2 : Int32} {kx_38 : (Int32) → (Int32) → (Nat → Int32) → (Nat → Int32) → (Nat → Int32) → (Nat → Int32) → Prop} {kr_38 : (Int32) → (Int32) → (Int32) → (Int32) → (Nat → Int32) → (Nat → Int32) → (Nat → Int32) → (Nat → Int32) → Prop} (F : Fx p m c cX12_cook 10 s ([.ref a_t, .int n1, .int n2, .int n3] : List Value).toArray RX12 D k) (hr : meth.sig.returnType = (some .int)) (hlk : meth.locks = false) (hA : ∀ q : Nat, s.heap.size ≤ q → A q) (hkx_38 : ∀ (x4 : Int32) (x6 : Int32) (i_t : Nat → Int32) (r_t_wagons : Nat → Int32) (r_t_foremost : Nat → Int32) (r_t_bears : Nat → Int32) (H : Heap) (locs : List Loc) (ls : Array Slot), kx_38 x4 x6 i_t r_t_wagons r_t_foremost r_t_bears → Bd D A s.heap (wd_LongTrainModel_cook k a_t d_t i_t j_t r_t_s r_t_wagons r_t_foremost r_t_bears) H locs → lv_has ls 10 [(2, .int x2), (4, .int x4), (6, .int x6)] → W p l e { frames := 3, cells := 0, slots := 0, locals := 67 } s m ([.ref a_t, .int n1, .int n2, .int n3] : List Value).toArray below meth c H locs 0 0 (Ei below (fun r w => ∃ (i_t : Nat → Int32), ∃ (r_t_wagons : Nat → Int32), ∃ (r_t_foremost : Nat → Int32), ∃ (r_t_bears : Nat → Int32), w = (wd_LongTrainModel_cook k a_t d_t i_t j_t r_t_s r_t_wagons r_t_foremost r_t_bears) ∧ Q r i_t r_t_wagons r_t_foremost r_t_bears) D k A ([.ref a_t, .int n1, .int n2, .int n3] : List Value).toArray s 0 0) (F0 m 166 ls [])) (hkr_38 : ∀ (x4 : Int32) (x5 : Int32) (x6 : Int32) (x7 : Int32) (i_t : Nat → Int32) (r_t_wagons : Nat → Int32) (r_t_foremost : Nat → Int32) (r_t_bears : Nat → Int32) (H : Heap) (locs : List Loc) (ls : Array Slot), kr_38 x4 x5 x6 x7 i_t r_t_wagons r_t_foremost r_t_bears → Bd D A s.heap (wd_LongTrainModel_cook k a_t d_t i_t j_t r_t_s r_t_wagons r_t_foremost r_t_bears) H locs → lv_has ls 10 [(0, .ref a_t), (2, .int x2), (4, .int x4), (5, .int x5), (6, .int x6), (7, .int x7)] → W p l e { frames := 3, cells := 0, slots := 0, locals := 67 } s m ([.ref a_t, .int n1, .int n2, .int n3] : List Value).toArray below meth c H locs 0 0 (Ei below (fun r w => ∃ (i_t : Nat → Int32), ∃ (r_t_wagons : Nat → Int32), ∃ (r_t_foremost : Nat → Int32), ∃ (r_t_bears : Nat → Int32), w = (wd_LongTrainModel_cook k a_t d_t i_t j_t r_t_s r_t_wagons r_t_foremost r_t_bears) ∧ Q r i_t r_t_wagons r_t_foremost r_t_bears) D k A ([.ref a_t, .int n1, .int n2, .int n3] : List Value).toArray s 0 0) (F0 m 38 ls [])) :
    ∀ (x4 : Int32) (x5 : Int32) (x6 : Int32) (x7 : Int32) (i_t : Nat → Int32) (r_t_wagons : Nat → Int32) (r_t_foremost : Nat → Int32) (r_t_bears : Nat → Int32) (H : Heap) (locs : List Loc) (ls : Array Slot), b_LongTrainModel_cook_38 r_t_s x2 kx_38 kr_38 x4 x5 x6 x7 i_t r_t_wagons r_t_foremost r_t_bears → Bd D A s.heap (wd_LongTrainModel_cook k a_t d_t i_t j_t r_t_s r_t_wagons r_t_foremost r_t_bears) H locs → lv_has ls 10 [(0, .ref a_t), (2, .int x2), (4, .int x4), (5, .int x5), (6, .int x6), (7, .int x7)] → W p l e { frames := 3, cells := 0, slots := 0, locals := 67 } s m ([.ref a_t, .int n1, .int n2, .int n3] : List Value).toArray below meth c H locs 0 0 (Ei below (fun r w => ∃ (i_t : Nat → Int32), ∃ (r_t_wagons : Nat → Int32), ∃ (r_t_foremost : Nat → Int32), ∃ (r_t_bears : Nat → Int32), w = (wd_LongTrainModel_cook k a_t d_t i_t j_t r_t_s r_t_wagons r_t_foremost r_t_bears) ∧ Q r i_t r_t_wagons r_t_foremost r_t_bears) D k A ([.ref a_t, .int n1, .int n2, .int n3] : List Value).toArray s 0 0) (F0 m 38 ls []) := by
  have hx := F.x
  have hb := F.b
  intro x4 x5 x6 x7 i_t r_t_wagons r_t_foremost r_t_bears H locs ls hf hB hl
  unfold b_LongTrainModel_cook_38 at hf
  refine lv_iload hx hb dX12_cook_38 (lv_at hl 2 rfl) ?_
  refine lv_iload_n hx hb dX12_cook_40 rfl (lv_at hl 1 rfl) ?_
  refine lv_icmp_ge (tgt := 166) hx hb dX12_cook_41 (by decide) (fun c_26 => ?_) (fun c_26 => ?_)
  · replace hf := hf.1 c_26
    exact hkx_38 _ _ _ _ _ _ _ _ _ hf hB (lv_sub hl [1, 2, 4] rfl)
  · replace hf := hf.2 c_26
    refine lv_iload hx hb dX12_cook_44 (lv_at hl 5 rfl) ?_
    refine lv_aload_n hx hb dX12_cook_46 rfl (lv_at hl 0 rfl) ?_
    refine g_get (w := .ref (d_t 6)) F hB 0 rfl fl_RX12_33 rfl dX12_cook_47 ?_
    refine lv_iconst (v := 0) hx hb dX12_cook_50 (by decide) ?_
    refine g_iald F hB 1 rfl (vp_in_iff.mpr (by decide +kernel)) dX12_cook_51 ?_
    refine W.eq (g2 := F0 m 52 ls [.int (r_t_s 0), .int x7]) rfl ?_
    refine lv_icmp_ge (tgt := 166) hx hb dX12_cook_52 (by decide) (fun c_25 => ?_) (fun c_25 => ?_)
    · replace hf := hf.1 c_25
      exact hkx_38 _ _ _ _ _ _ _ _ _ hf hB (lv_sub hl [1, 2, 4] rfl)
    · replace hf := hf.2 c_25
      refine lv_aload_n hx hb dX12_cook_55 rfl (lv_at hl 0 rfl) ?_
      refine lv_iload hx hb dX12_cook_56 (lv_at hl 5 rfl) ?_
      refine k_vv (wr := []) (rest := []) F hA hB (c_LongTrainModel_withAt l D k a_t d_t i_t j_t r_t_s r_t_wagons r_t_foremost r_t_bears x7 _  hf) ml_RX12_351 mv_yX12_withAt [0, 1, 2, 3, 4] [] rfl rfl (by decide) (by decide) (by decide) 0 rfl rfl rfl hl.1 rfl (Nat.le_of_ble_eq_true rfl) ⟨Nat.le_of_ble_eq_true rfl, Nat.le_of_ble_eq_true rfl⟩ ⟨Nat.le_of_ble_eq_true rfl, Nat.le_of_ble_eq_true rfl⟩ dX12_cook_58 (fun w1 H locs hq hB => ?_)
      obtain ⟨i_t_8, r_t_wagons_9, r_t_foremost_10, r_t_bears_11, rfl, hf⟩ := hq
      replace hB : Bd D A s.heap (wd_LongTrainModel_cook k a_t d_t i_t_8 j_t r_t_s r_t_wagons_9 r_t_foremost_10 r_t_bears_11) H locs := hB.sub [0, 1, 2, 3, 4] (by decide) rfl
      refine lv_aload_n hx hb dX12_cook_61 rfl (lv_at hl 0 rfl) ?_
      refine g_get (w := .ref (d_t 6)) F hB 0 rfl fl_RX12_33 rfl dX12_cook_62 ?_
      refine lv_bipush (v := 9) hx hb dX12_cook_65 (by decide) ?_
      refine g_iald F hB 1 rfl (vp_in_iff.mpr (by decide +kernel)) dX12_cook_67 ?_
      refine W.eq (g2 := F0 m 68 ls [.int (r_t_s 9)]) rfl ?_
      refine lv_istore (lv' := [(8, .int (r_t_s 9)), (0, .ref a_t), (2, .int x2), (4, .int x4), (5, .int x5), (6, .int x6), (7, .int x7)]) hx hb dX12_cook_68 hl (by decide) rfl (fun ls hl => ?_)
      refine lv_iconst (v := 1) hx hb dX12_cook_70 (by decide) ?_
      refine lv_istore (lv' := [(9, .int (1 : Int32)), (8, .int (r_t_s 9)), (0, .ref a_t), (2, .int x2), (4, .int x4), (5, .int x5), (6, .int x6), (7, .int x7)]) hx hb dX12_cook_71 hl (by decide) rfl (fun ls hl => ?_)
      obtain ⟨n_24, hf⟩ := hf
      refine lt_LongTrainModel_cook_73 F hr hlk hA (fun x4_22 x5_23 H locs ls hf hB hl => ?_) n_24 _ _ _ _ _ _ _ hf hB (lv_sub hl [2, 3, 4, 5, 6, 7, 1, 0] rfl)
      refine lv_iinc (v := (x6 + 1)) (lv' := [(6, .int (x6 + 1)), (0, .ref a_t), (2, .int x2), (4, .int x4_22), (5, .int x5_23), (7, .int x7)]) (k := 4) hx hb dX12_cook_157 hl rfl rfl (by decide) rfl (fun ls hl => ?_)
      refine lv_iinc (v := (x7 + 1)) (lv' := [(7, .int (x7 + 1)), (6, .int (x6 + 1)), (0, .ref a_t), (2, .int x2), (4, .int x4_22), (5, .int x5_23)]) (k := 5) hx hb dX12_cook_160 hl rfl rfl (by decide) rfl (fun ls hl => ?_)
      refine lv_goto (tgt := 38) hx hb dX12_cook_163 (by decide) ?_
      exact hkr_38 _ _ _ _ _ _ _ _ _ _ _ hf hB (lv_sub hl [2, 3, 4, 5, 1, 0] rfl)

set_option maxRecDepth 100000 in
set_option maxHeartbeats 4000000 in
theorem lt_LongTrainModel_cook_38 {p : Program} {l : Launch} {e : Env} {s : State} {m : MethodId} {below : List Frame} {meth : Method} {c : Code} {A : Nat → Prop} {D : va_G} {k : Nat → ClassId} {a_t : Nat} {d_t : Nat → Nat} {j_t : Nat → Int64} {r_t_s : Nat → Int32} {n1 : Int32} {n2 : Int32} {n3 : Int32} {Q : Int32 → (Nat → Int32) → (Nat → Int32) → (Nat → Int32) → (Nat → Int32) → Prop}  {x2 : Int32} {kx_38 : (Int32) → (Int32) → (Nat → Int32) → (Nat → Int32) → (Nat → Int32) → (Nat → Int32) → Prop} (F : Fx p m c cX12_cook 10 s ([.ref a_t, .int n1, .int n2, .int n3] : List Value).toArray RX12 D k) (hr : meth.sig.returnType = (some .int)) (hlk : meth.locks = false) (hA : ∀ q : Nat, s.heap.size ≤ q → A q) (hkx_38 : ∀ (x4 : Int32) (x6 : Int32) (i_t : Nat → Int32) (r_t_wagons : Nat → Int32) (r_t_foremost : Nat → Int32) (r_t_bears : Nat → Int32) (H : Heap) (locs : List Loc) (ls : Array Slot), kx_38 x4 x6 i_t r_t_wagons r_t_foremost r_t_bears → Bd D A s.heap (wd_LongTrainModel_cook k a_t d_t i_t j_t r_t_s r_t_wagons r_t_foremost r_t_bears) H locs → lv_has ls 10 [(2, .int x2), (4, .int x4), (6, .int x6)] → W p l e { frames := 3, cells := 0, slots := 0, locals := 67 } s m ([.ref a_t, .int n1, .int n2, .int n3] : List Value).toArray below meth c H locs 0 0 (Ei below (fun r w => ∃ (i_t : Nat → Int32), ∃ (r_t_wagons : Nat → Int32), ∃ (r_t_foremost : Nat → Int32), ∃ (r_t_bears : Nat → Int32), w = (wd_LongTrainModel_cook k a_t d_t i_t j_t r_t_s r_t_wagons r_t_foremost r_t_bears) ∧ Q r i_t r_t_wagons r_t_foremost r_t_bears) D k A ([.ref a_t, .int n1, .int n2, .int n3] : List Value).toArray s 0 0) (F0 m 166 ls [])) :
    ∀ n : Nat, ∀ (x4 : Int32) (x5 : Int32) (x6 : Int32) (x7 : Int32) (i_t : Nat → Int32) (r_t_wagons : Nat → Int32) (r_t_foremost : Nat → Int32) (r_t_bears : Nat → Int32) (H : Heap) (locs : List Loc) (ls : Array Slot), lp_LongTrainModel_cook_38 r_t_s x2 kx_38 n x4 x5 x6 x7 i_t r_t_wagons r_t_foremost r_t_bears → Bd D A s.heap (wd_LongTrainModel_cook k a_t d_t i_t j_t r_t_s r_t_wagons r_t_foremost r_t_bears) H locs → lv_has ls 10 [(0, .ref a_t), (2, .int x2), (4, .int x4), (5, .int x5), (6, .int x6), (7, .int x7)] → W p l e { frames := 3, cells := 0, slots := 0, locals := 67 } s m ([.ref a_t, .int n1, .int n2, .int n3] : List Value).toArray below meth c H locs 0 0 (Ei below (fun r w => ∃ (i_t : Nat → Int32), ∃ (r_t_wagons : Nat → Int32), ∃ (r_t_foremost : Nat → Int32), ∃ (r_t_bears : Nat → Int32), w = (wd_LongTrainModel_cook k a_t d_t i_t j_t r_t_s r_t_wagons r_t_foremost r_t_bears) ∧ Q r i_t r_t_wagons r_t_foremost r_t_bears) D k A ([.ref a_t, .int n1, .int n2, .int n3] : List Value).toArray s 0 0) (F0 m 38 ls []) := by
  intro n
  induction n with
  | zero => intro x4 x5 x6 x7 i_t r_t_wagons r_t_foremost r_t_bears H locs ls hf; exact absurd hf (fun h => h)
  | succ n ih => exact bt_LongTrainModel_cook_38 F hr hlk hA hkx_38 ih

set_option maxRecDepth 100000 in
set_option maxHeartbeats 4000000 in
theorem c_LongTrainModel_cook (l : Launch) (D : va_G) (k : Nat → ClassId) (a_t : Nat) (d_t : Nat → Nat) (i_t : Nat → Int32) (j_t : Nat → Int64) (r_t_s : Nat → Int32) (r_t_wagons : Nat → Int32) (r_t_foremost : Nat → Int32) (r_t_bears : Nat → Int32) (n1 : Int32) (n2 : Int32) (n3 : Int32) (Q : Int32 → (Nat → Int32) → (Nat → Int32) → (Nat → Int32) → (Nat → Int32) → Prop)  (hf : w_LongTrainModel_cook i_t r_t_s r_t_wagons r_t_foremost r_t_bears n1 n2 n3 Q) : CtI l yX12_cook cX12_cook 10 (some .int) 3 67 0 0 D k [.ref a_t, .int n1, .int n2, .int n3] (wd_LongTrainModel_cook k a_t d_t i_t j_t r_t_s r_t_wagons r_t_foremost r_t_bears) (fun r w => ∃ (i_t : Nat → Int32), ∃ (r_t_wagons : Nat → Int32), ∃ (r_t_foremost : Nat → Int32), ∃ (r_t_bears : Nat → Int32), w = (wd_LongTrainModel_cook k a_t d_t i_t j_t r_t_s r_t_wagons r_t_foremost r_t_bears) ∧ Q r i_t r_t_wagons r_t_foremost r_t_bears) := by
  refine CtI.of (by decide) (Nat.le_of_ble_eq_true rfl) ?_
  intro p e s m below meth c A F hr hlk hnm hA hB ls hl
  have hx := F.x
  have hb := F.b
  unfold w_LongTrainModel_cook at hf
  replace hl : lv_has ls 10 [(0, .ref a_t), (1, .int n1), (2, .int n2), (3, .int n3)] := hl
  refine lv_aload_n hx hb dX12_cook_0 rfl (lv_at hl 0 rfl) ?_
  refine lv_iconst (v := 0) hx hb dX12_cook_1 (by decide) ?_
  refine g_puti F hB 0 rfl fl_RX12_1 rfl (wd_LongTrainModel_cook k a_t d_t (upd i_t 0 (0 : Int32)) j_t r_t_s r_t_wagons r_t_foremost r_t_bears) rfl dX12_cook_2 (fun H locs hB => ?_)
  refine lv_aload_n hx hb dX12_cook_5 rfl (lv_at hl 0 rfl) ?_
  refine lv_iload_n hx hb dX12_cook_6 rfl (lv_at hl 1 rfl) ?_
  refine lv_iload_n hx hb dX12_cook_7 rfl (lv_at hl 2 rfl) ?_
  refine lv_iload_n hx hb dX12_cook_8 rfl (lv_at hl 3 rfl) ?_
  refine k_vi (wr := [((d_t 23), ai k 20 r_t_foremost), ((d_t 24), ai k 20 r_t_bears)]) (rest := []) F hA hB (c_LongTrainModel_isWalk l D k a_t d_t (upd i_t 0 (0 : Int32)) j_t r_t_s r_t_wagons n1 n2 n3 _  hf) ml_RX12_348 mv_yX12_isWalk [0, 1, 2] [3, 4] rfl rfl (by decide) (by decide) (by decide) 0 rfl rfl rfl hl.1 rfl (Nat.le_of_ble_eq_true rfl) ⟨Nat.le_of_ble_eq_true rfl, Nat.le_of_ble_eq_true rfl⟩ ⟨Nat.le_of_ble_eq_true rfl, Nat.le_of_ble_eq_true rfl⟩ dX12_cook_9 (fun z_3 w1 H locs hq hB => ?_)
  obtain ⟨h_4, i_t_1, r_t_wagons_2, rfl, hf⟩ := hq
  replace hB : Bd D A s.heap (wd_LongTrainModel_cook k a_t d_t i_t_1 j_t r_t_s r_t_wagons_2 r_t_foremost r_t_bears) H locs := hB.sub [2, 3, 4, 0, 1] (by decide) rfl
  refine lv_if_ne (tgt := 17) hx hb dX12_cook_12 (by decide) (fun c_35 => ?_) (fun c_35 => ?_)
  · replace hf := hf.1 c_35
    refine lv_iload_n hx hb dX12_cook_17 rfl (lv_at hl 1 rfl) ?_
    refine lv_istore (lv' := [(4, .int n1), (0, .ref a_t), (1, .int n1), (2, .int n2), (3, .int n3)]) hx hb dX12_cook_18 hl (by decide) rfl (fun ls hl => ?_)
    refine lv_aload_n hx hb dX12_cook_20 rfl (lv_at hl 1 rfl) ?_
    refine lv_aload_n hx hb dX12_cook_21 rfl (lv_at hl 1 rfl) ?_
    refine g_get (w := .ref (d_t 22)) F hB 0 rfl fl_RX12_50 rfl dX12_cook_22 ?_
    refine lv_iload_n hx hb dX12_cook_25 rfl (lv_at hl 2 rfl) ?_
    obtain ⟨h_5, hf⟩ := hf
    refine g_iald F hB 2 rfl h_5 dX12_cook_26 ?_
    refine k_vi (wr := [((d_t 22), ai k 20 r_t_wagons_2), ((d_t 23), ai k 20 r_t_foremost), ((d_t 24), ai k 20 r_t_bears)]) (rest := []) F hA hB (c_LongTrainModel_longOf l D k a_t d_t i_t_1 j_t r_t_s (r_t_wagons_2 (n1).toNatClampNeg) _  hf) ml_RX12_273 mv_yX12_longOf [0, 1] [2, 3, 4] rfl rfl (by decide) (by decide) (by decide) 0 rfl rfl rfl hl.1 rfl (Nat.le_of_ble_eq_true rfl) ⟨Nat.le_of_ble_eq_true rfl, Nat.le_of_ble_eq_true rfl⟩ ⟨Nat.le_of_ble_eq_true rfl, Nat.le_of_ble_eq_true rfl⟩ dX12_cook_27 (fun z_6 w1 H locs hq hB => ?_)
    obtain ⟨rfl, hf⟩ := hq
    replace hB : Bd D A s.heap (wd_LongTrainModel_cook k a_t d_t i_t_1 j_t r_t_s r_t_wagons_2 r_t_foremost r_t_bears) H locs := hB.sub [3, 4, 0, 1, 2] (by decide) rfl
    refine lv_istore (lv' := [(5, .int z_6), (4, .int n1), (0, .ref a_t), (1, .int n1), (2, .int n2), (3, .int n3)]) hx hb dX12_cook_30 hl (by decide) rfl (fun ls hl => ?_)
    refine lv_iconst (v := 0) hx hb dX12_cook_32 (by decide) ?_
    refine lv_istore (lv' := [(6, .int (0 : Int32)), (5, .int z_6), (4, .int n1), (0, .ref a_t), (1, .int n1), (2, .int n2), (3, .int n3)]) hx hb dX12_cook_33 hl (by decide) rfl (fun ls hl => ?_)
    refine lv_iload_n hx hb dX12_cook_35 rfl (lv_at hl 6 rfl) ?_
    refine lv_istore (lv' := [(7, .int n3), (6, .int (0 : Int32)), (5, .int z_6), (4, .int n1), (0, .ref a_t), (1, .int n1), (2, .int n2), (3, .int n3)]) hx hb dX12_cook_36 hl (by decide) rfl (fun ls hl => ?_)
    obtain ⟨n_34, hf⟩ := hf
    refine lt_LongTrainModel_cook_38 F hr hlk hA (fun x4_27 x6_28 i_t_29 r_t_wagons_30 r_t_foremost_31 r_t_bears_32 H locs ls hf hB hl => ?_) n_34 _ _ _ _ _ _ _ _ _ _ _ hf hB (lv_sub hl [4, 6, 3, 2, 1, 0] rfl)
    refine lv_iload hx hb dX12_cook_166 (lv_at hl 1 rfl) ?_
    refine lv_iload_n hx hb dX12_cook_168 rfl (lv_at hl 0 rfl) ?_
    refine lv_icmp_ne (tgt := 177) hx hb dX12_cook_169 (by decide) (fun c_33 => ?_) (fun c_33 => ?_)
    · replace hf := hf.1 c_33
      refine lv_iconst (v := -1) hx hb dX12_cook_177 (by decide) ?_
      exact r_i F hr hlk hB ⟨_, _, _, _, rfl, hf⟩ dX12_cook_178
    · replace hf := hf.2 c_33
      refine lv_iload hx hb dX12_cook_172 (lv_at hl 2 rfl) ?_
      refine lv_goto (tgt := 178) hx hb dX12_cook_174 (by decide) ?_
      exact r_i F hr hlk hB ⟨_, _, _, _, rfl, hf⟩ dX12_cook_178
  · replace hf := hf.2 c_35
    refine lv_iconst (v := -1) hx hb dX12_cook_15 (by decide) ?_
    exact r_i F hr hlk hB ⟨_, _, _, _, rfl, hf⟩ dX12_cook_16

/-! LongTrainModel.back -/
set_option maxRecDepth 100000 in
set_option maxHeartbeats 4000000 in
theorem jt_LongTrainModel_back_144 {p : Program} {l : Launch} {e : Env} {s : State} {m : MethodId} {below : List Frame} {meth : Method} {c : Code} {A : Nat → Prop} {D : va_G} {k : Nat → ClassId} {a_t : Nat} {d_t : Nat → Nat} {i_t : Nat → Int32} {j_t : Nat → Int64} {r_t_s : Nat → Int32} {r_t_wagons : Nat → Int32} {r_t_foremost : Nat → Int32} {r_t_bears : Nat → Int32} {n1 : Int32} {n2 : Int32} {n3 : Int32} {Q : Int32 → (Nat → Int32) → (Nat → Int32) → (Nat → Int32) → (Nat → Int32) → Prop}  {x1 : Int32} {x6 : Int32} {x7 : Int32} {kr_69 : (Int32) → (Int32) → (Int32) → (Int32) → Prop} (F : Fx p m c cX12_back 10 s ([.ref a_t, .int n1, .int n2, .int n3] : List Value).toArray RX12 D k) (hr : meth.sig.returnType = (some .int)) (hlk : meth.locks = false) (hA : ∀ q : Nat, s.heap.size ≤ q → A q) (hkr_69 : ∀ (x4 : Int32) (x5 : Int32) (x8 : Int32) (x9 : Int32) (H : Heap) (locs : List Loc) (ls : Array Slot), kr_69 x4 x5 x8 x9 → Bd D A s.heap (wd_LongTrainModel_back k a_t d_t i_t j_t r_t_s r_t_wagons r_t_foremost r_t_bears) H locs → lv_has ls 10 [(0, .ref a_t), (1, .int x1), (4, .int x4), (5, .int x5), (6, .int x6), (7, .int x7), (8, .int x8), (9, .int x9)] → W p l e { frames := 3, cells := 0, slots := 0, locals := 67 } s m ([.ref a_t, .int n1, .int n2, .int n3] : List Value).toArray below meth c H locs 0 0 (Ei below (fun r w => ∃ (i_t : Nat → Int32), ∃ (r_t_wagons : Nat → Int32), ∃ (r_t_foremost : Nat → Int32), ∃ (r_t_bears : Nat → Int32), w = (wd_LongTrainModel_back k a_t d_t i_t j_t r_t_s r_t_wagons r_t_foremost r_t_bears) ∧ Q r i_t r_t_wagons r_t_foremost r_t_bears) D k A ([.ref a_t, .int n1, .int n2, .int n3] : List Value).toArray s 0 0) (F0 m 69 ls [])) :
    ∀ (x4 : Int32) (x5 : Int32) (x8 : Int32) (y0 : Int32) (H : Heap) (locs : List Loc) (ls : Array Slot), j_LongTrainModel_back_144 r_t_s r_t_wagons x4 x5 x8 y0 kr_69 → Bd D A s.heap (wd_LongTrainModel_back k a_t d_t i_t j_t r_t_s r_t_wagons r_t_foremost r_t_bears) H locs → lv_has ls 10 [(0, .ref a_t), (1, .int x1), (4, .int x4), (5, .int x5), (6, .int x6), (7, .int x7), (8, .int x8)] → W p l e { frames := 3, cells := 0, slots := 0, locals := 67 } s m ([.ref a_t, .int n1, .int n2, .int n3] : List Value).toArray below meth c H locs 0 0 (Ei below (fun r w => ∃ (i_t : Nat → Int32), ∃ (r_t_wagons : Nat → Int32), ∃ (r_t_foremost : Nat → Int32), ∃ (r_t_bears : Nat → Int32), w = (wd_LongTrainModel_back k a_t d_t i_t j_t r_t_s r_t_wagons r_t_foremost r_t_bears) ∧ Q r i_t r_t_wagons r_t_foremost r_t_bears) D k A ([.ref a_t, .int n1, .int n2, .int n3] : List Value).toArray s 0 0) (F0 m 144 ls [.int y0]) := by
  have hx := F.x
  have hb := F.b
  intro x4 x5 x8 y0 H locs ls hf hB hl
  unfold j_LongTrainModel_back_144 at hf
  refine lv_istore (lv' := [(9, .int y0), (0, .ref a_t), (1, .int x1), (4, .int x4), (5, .int x5), (6, .int x6), (7, .int x7), (8, .int x8)]) hx hb dX12_back_144 hl (by decide) rfl (fun ls hl => ?_)
  refine lv_iload hx hb dX12_back_146 (lv_at hl 0 rfl) ?_
  refine lv_if_eq (tgt := 69) hx hb dX12_back_148 (by decide) (fun c_13 => ?_) (fun c_13 => ?_)
  · replace hf := hf.1 c_13
    exact hkr_69 _ _ _ _ _ _ _ hf hB (lv_sub hl [1, 2, 3, 4, 5, 6, 7, 0] rfl)
  · replace hf := hf.2 c_13
    refine lv_iinc (v := (x4 + (-1))) (lv' := [(4, .int (x4 + (-1))), (9, .int y0), (0, .ref a_t), (1, .int x1), (5, .int x5), (6, .int x6), (7, .int x7), (8, .int x8)]) (k := 3) hx hb dX12_back_151 hl rfl rfl (by decide) rfl (fun ls hl => ?_)
    refine lv_aload_n hx hb dX12_back_154 rfl (lv_at hl 2 rfl) ?_
    refine lv_aload_n hx hb dX12_back_155 rfl (lv_at hl 2 rfl) ?_
    refine g_get (w := .ref (d_t 22)) F hB 0 rfl fl_RX12_50 rfl dX12_back_156 ?_
    refine lv_iload hx hb dX12_back_159 (lv_at hl 0 rfl) ?_
    obtain ⟨h_11, hf⟩ := hf
    refine g_iald F hB 2 rfl h_11 dX12_back_161 ?_
    refine k_vi (wr := [((d_t 22), ai k 20 r_t_wagons), ((d_t 23), ai k 20 r_t_foremost), ((d_t 24), ai k 20 r_t_bears)]) (rest := []) F hA hB (c_LongTrainModel_longOf l D k a_t d_t i_t j_t r_t_s (r_t_wagons ((x4 + (-1))).toNatClampNeg) _  hf) ml_RX12_273 mv_yX12_longOf [0, 1] [2, 3, 4] rfl rfl (by decide) (by decide) (by decide) 0 rfl rfl rfl hl.1 rfl (Nat.le_of_ble_eq_true rfl) ⟨Nat.le_of_ble_eq_true rfl, Nat.le_of_ble_eq_true rfl⟩ ⟨Nat.le_of_ble_eq_true rfl, Nat.le_of_ble_eq_true rfl⟩ dX12_back_162 (fun z_12 w1 H locs hq hB => ?_)
    obtain ⟨rfl, hf⟩ := hq
    replace hB : Bd D A s.heap (wd_LongTrainModel_back k a_t d_t i_t j_t r_t_s r_t_wagons r_t_foremost r_t_bears) H locs := hB.sub [3, 4, 0, 1, 2] (by decide) rfl
    refine lv_istore (lv' := [(5, .int z_12), (4, .int (x4 + (-1))), (9, .int y0), (0, .ref a_t), (1, .int x1), (6, .int x6), (7, .int x7), (8, .int x8)]) hx hb dX12_back_165 hl (by decide) rfl (fun ls hl => ?_)
    refine lv_goto (tgt := 69) hx hb dX12_back_167 (by decide) ?_
    exact hkr_69 _ _ _ _ _ _ _ hf hB (lv_sub hl [3, 4, 1, 0, 5, 6, 7, 2] rfl)

set_option maxRecDepth 100000 in
set_option maxHeartbeats 4000000 in
theorem jt_LongTrainModel_back_143 {p : Program} {l : Launch} {e : Env} {s : State} {m : MethodId} {below : List Frame} {meth : Method} {c : Code} {A : Nat → Prop} {D : va_G} {k : Nat → ClassId} {a_t : Nat} {d_t : Nat → Nat} {i_t : Nat → Int32} {j_t : Nat → Int64} {r_t_s : Nat → Int32} {r_t_wagons : Nat → Int32} {r_t_foremost : Nat → Int32} {r_t_bears : Nat → Int32} {n1 : Int32} {n2 : Int32} {n3 : Int32} {Q : Int32 → (Nat → Int32) → (Nat → Int32) → (Nat → Int32) → (Nat → Int32) → Prop}  {x1 : Int32} {x6 : Int32} {x7 : Int32} {kr_69 : (Int32) → (Int32) → (Int32) → (Int32) → Prop} (F : Fx p m c cX12_back 10 s ([.ref a_t, .int n1, .int n2, .int n3] : List Value).toArray RX12 D k) (hr : meth.sig.returnType = (some .int)) (hlk : meth.locks = false) (hA : ∀ q : Nat, s.heap.size ≤ q → A q) (hkr_69 : ∀ (x4 : Int32) (x5 : Int32) (x8 : Int32) (x9 : Int32) (H : Heap) (locs : List Loc) (ls : Array Slot), kr_69 x4 x5 x8 x9 → Bd D A s.heap (wd_LongTrainModel_back k a_t d_t i_t j_t r_t_s r_t_wagons r_t_foremost r_t_bears) H locs → lv_has ls 10 [(0, .ref a_t), (1, .int x1), (4, .int x4), (5, .int x5), (6, .int x6), (7, .int x7), (8, .int x8), (9, .int x9)] → W p l e { frames := 3, cells := 0, slots := 0, locals := 67 } s m ([.ref a_t, .int n1, .int n2, .int n3] : List Value).toArray below meth c H locs 0 0 (Ei below (fun r w => ∃ (i_t : Nat → Int32), ∃ (r_t_wagons : Nat → Int32), ∃ (r_t_foremost : Nat → Int32), ∃ (r_t_bears : Nat → Int32), w = (wd_LongTrainModel_back k a_t d_t i_t j_t r_t_s r_t_wagons r_t_foremost r_t_bears) ∧ Q r i_t r_t_wagons r_t_foremost r_t_bears) D k A ([.ref a_t, .int n1, .int n2, .int n3] : List Value).toArray s 0 0) (F0 m 69 ls [])) :
    ∀ (x4 : Int32) (x5 : Int32) (x8 : Int32) (H : Heap) (locs : List Loc) (ls : Array Slot), j_LongTrainModel_back_143 r_t_s r_t_wagons x4 x5 x8 kr_69 → Bd D A s.heap (wd_LongTrainModel_back k a_t d_t i_t j_t r_t_s r_t_wagons r_t_foremost r_t_bears) H locs → lv_has ls 10 [(0, .ref a_t), (1, .int x1), (4, .int x4), (5, .int x5), (6, .int x6), (7, .int x7), (8, .int x8)] → W p l e { frames := 3, cells := 0, slots := 0, locals := 67 } s m ([.ref a_t, .int n1, .int n2, .int n3] : List Value).toArray below meth c H locs 0 0 (Ei below (fun r w => ∃ (i_t : Nat → Int32), ∃ (r_t_wagons : Nat → Int32), ∃ (r_t_foremost : Nat → Int32), ∃ (r_t_bears : Nat → Int32), w = (wd_LongTrainModel_back k a_t d_t i_t j_t r_t_s r_t_wagons r_t_foremost r_t_bears) ∧ Q r i_t r_t_wagons r_t_foremost r_t_bears) D k A ([.ref a_t, .int n1, .int n2, .int n3] : List Value).toArray s 0 0) (F0 m 143 ls []) := by
  have hx := F.x
  have hb := F.b
  intro x4 x5 x8 H locs ls hf hB hl
  unfold j_LongTrainModel_back_143 at hf
  refine lv_iconst (v := 0) hx hb dX12_back_143 (by decide) ?_
  exact jt_LongTrainModel_back_144 F hr hlk hA hkr_69 _ _ _ _ _ _ _ hf hB (lv_sub hl [0, 1, 2, 3, 4, 5, 6] rfl)

set_option maxRecDepth 100000 in
set_option maxHeartbeats 4000000 in
theorem jt_LongTrainModel_back_97 {p : Program} {l : Launch} {e : Env} {s : State} {m : MethodId} {below : List Frame} {meth : Method} {c : Code} {A : Nat → Prop} {D : va_G} {k : Nat → ClassId} {a_t : Nat} {d_t : Nat → Nat} {i_t : Nat → Int32} {j_t : Nat → Int64} {r_t_s : Nat → Int32} {r_t_wagons : Nat → Int32} {r_t_foremost : Nat → Int32} {r_t_bears : Nat → Int32} {n1 : Int32} {n2 : Int32} {n3 : Int32} {Q : Int32 → (Nat → Int32) → (Nat → Int32) → (Nat → Int32) → (Nat → Int32) → Prop}  {x1 : Int32} {x6 : Int32} {x7 : Int32} {kr_69 : (Int32) → (Int32) → (Int32) → (Int32) → Prop} (F : Fx p m c cX12_back 10 s ([.ref a_t, .int n1, .int n2, .int n3] : List Value).toArray RX12 D k) (hr : meth.sig.returnType = (some .int)) (hlk : meth.locks = false) (hA : ∀ q : Nat, s.heap.size ≤ q → A q) (hkr_69 : ∀ (x4 : Int32) (x5 : Int32) (x8 : Int32) (x9 : Int32) (H : Heap) (locs : List Loc) (ls : Array Slot), kr_69 x4 x5 x8 x9 → Bd D A s.heap (wd_LongTrainModel_back k a_t d_t i_t j_t r_t_s r_t_wagons r_t_foremost r_t_bears) H locs → lv_has ls 10 [(0, .ref a_t), (1, .int x1), (4, .int x4), (5, .int x5), (6, .int x6), (7, .int x7), (8, .int x8), (9, .int x9)] → W p l e { frames := 3, cells := 0, slots := 0, locals := 67 } s m ([.ref a_t, .int n1, .int n2, .int n3] : List Value).toArray below meth c H locs 0 0 (Ei below (fun r w => ∃ (i_t : Nat → Int32), ∃ (r_t_wagons : Nat → Int32), ∃ (r_t_foremost : Nat → Int32), ∃ (r_t_bears : Nat → Int32), w = (wd_LongTrainModel_back k a_t d_t i_t j_t r_t_s r_t_wagons r_t_foremost r_t_bears) ∧ Q r i_t r_t_wagons r_t_foremost r_t_bears) D k A ([.ref a_t, .int n1, .int n2, .int n3] : List Value).toArray s 0 0) (F0 m 69 ls [])) :
    ∀ (x4 : Int32) (x5 : Int32) (x8 : Int32) (y0 : Int32) (H : Heap) (locs : List Loc) (ls : Array Slot), j_LongTrainModel_back_97 r_t_s r_t_wagons r_t_bears x1 x4 x5 x8 y0 kr_69 → Bd D A s.heap (wd_LongTrainModel_back k a_t d_t i_t j_t r_t_s r_t_wagons r_t_foremost r_t_bears) H locs → lv_has ls 10 [(0, .ref a_t), (1, .int x1), (4, .int x4), (5, .int x5), (6, .int x6), (7, .int x7), (8, .int x8)] → W p l e { frames := 3, cells := 0, slots := 0, locals := 67 } s m ([.ref a_t, .int n1, .int n2, .int n3] : List Value).toArray below meth c H locs 0 0 (Ei below (fun r w => ∃ (i_t : Nat → Int32), ∃ (r_t_wagons : Nat → Int32), ∃ (r_t_foremost : Nat → Int32), ∃ (r_t_bears : Nat → Int32), w = (wd_LongTrainModel_back k a_t d_t i_t j_t r_t_s r_t_wagons r_t_foremost r_t_bears) ∧ Q r i_t r_t_wagons r_t_foremost r_t_bears) D k A ([.ref a_t, .int n1, .int n2, .int n3] : List Value).toArray s 0 0) (F0 m 97 ls [.int y0]) := by
  have hx := F.x
  have hb := F.b
  intro x4 x5 x8 y0 H locs ls hf hB hl
  unfold j_LongTrainModel_back_97 at hf
  refine lv_istore (lv' := [(9, .int y0), (0, .ref a_t), (1, .int x1), (4, .int x4), (5, .int x5), (6, .int x6), (7, .int x7), (8, .int x8)]) hx hb dX12_back_97 hl (by decide) rfl (fun ls hl => ?_)
  refine lv_iload hx hb dX12_back_99 (lv_at hl 0 rfl) ?_
  refine lv_if_ne (tgt := 114) hx hb dX12_back_101 (by decide) (fun c_18 => ?_) (fun c_18 => ?_)
  · replace hf := hf.1 c_18
    refine lv_iload hx hb dX12_back_114 (lv_at hl 7 rfl) ?_
    refine lv_iload hx hb dX12_back_116 (lv_at hl 4 rfl) ?_
    refine lv_isub hx hb dX12_back_118 ?_
    refine lv_istore (lv' := [(8, .int (x8 - x5)), (9, .int y0), (0, .ref a_t), (1, .int x1), (4, .int x4), (5, .int x5), (6, .int x6), (7, .int x7)]) hx hb dX12_back_119 hl (by decide) rfl (fun ls hl => ?_)
    refine lv_iconst (v := 0) hx hb dX12_back_121 (by decide) ?_
    refine lv_istore (lv' := [(5, .int (0 : Int32)), (8, .int (x8 - x5)), (9, .int y0), (0, .ref a_t), (1, .int x1), (4, .int x4), (6, .int x6), (7, .int x7)]) hx hb dX12_back_122 hl (by decide) rfl (fun ls hl => ?_)
    refine lv_iload hx hb dX12_back_124 (lv_at hl 5 rfl) ?_
    refine lv_iload_n hx hb dX12_back_126 rfl (lv_at hl 4 rfl) ?_
    refine lv_icmp_le (tgt := 143) hx hb dX12_back_127 (by decide) (fun c_17 => ?_) (fun c_17 => ?_)
    · replace hf := hf.1 c_17
      exact jt_LongTrainModel_back_143 F hr hlk hA hkr_69 _ _ _ _ _ _ hf hB (lv_sub hl [3, 4, 5, 0, 6, 7, 1] rfl)
    · replace hf := hf.2 c_17
      refine lv_aload_n hx hb dX12_back_130 rfl (lv_at hl 3 rfl) ?_
      refine lv_iload hx hb dX12_back_131 (lv_at hl 5 rfl) ?_
      refine k_vi (wr := [((d_t 23), ai k 20 r_t_foremost)]) (rest := []) F hA hB (c_LongTrainModel_mayPass l D k a_t d_t i_t j_t r_t_bears r_t_wagons r_t_s x4 _  hf) ml_RX12_354 mv_yX12_mayPass [0, 4, 2, 1] [3] rfl rfl (by decide) (by decide) (by decide) 0 rfl rfl rfl hl.1 rfl (Nat.le_of_ble_eq_true rfl) ⟨Nat.le_of_ble_eq_true rfl, Nat.le_of_ble_eq_true rfl⟩ ⟨Nat.le_of_ble_eq_true rfl, Nat.le_of_ble_eq_true rfl⟩ dX12_back_133 (fun z_14 w1 H locs hq hB => ?_)
      obtain ⟨h_15, rfl, hf⟩ := hq
      replace hB : Bd D A s.heap (wd_LongTrainModel_back k a_t d_t i_t j_t r_t_s r_t_wagons r_t_foremost r_t_bears) H locs := hB.sub [1, 4, 3, 0, 2] (by decide) rfl
      refine lv_if_eq (tgt := 143) hx hb dX12_back_136 (by decide) (fun c_16 => ?_) (fun c_16 => ?_)
      · replace hf := hf.1 c_16
        exact jt_LongTrainModel_back_143 F hr hlk hA hkr_69 _ _ _ _ _ _ hf hB (lv_sub hl [3, 4, 5, 0, 6, 7, 1] rfl)
      · replace hf := hf.2 c_16
        refine lv_iconst (v := 1) hx hb dX12_back_139 (by decide) ?_
        refine lv_goto (tgt := 144) hx hb dX12_back_140 (by decide) ?_
        exact jt_LongTrainModel_back_144 F hr hlk hA hkr_69 _ _ _ _ _ _ _ hf hB (lv_sub hl [3, 4, 5, 0, 6, 7, 1] rfl)
  · replace hf := hf.2 c_18
    refine lv_iload hx hb dX12_back_104 (lv_at hl 4 rfl) ?_
    refine lv_iload hx hb dX12_back_106 (lv_at hl 7 rfl) ?_
    refine lv_isub hx hb dX12_back_108 ?_
    refine lv_istore (lv' := [(5, .int (x5 - x8)), (9, .int y0), (0, .ref a_t), (1, .int x1), (4, .int x4), (6, .int x6), (7, .int x7), (8, .int x8)]) hx hb dX12_back_109 hl (by decide) rfl (fun ls hl => ?_)
    refine lv_goto (tgt := 69) hx hb dX12_back_111 (by decide) ?_
    exact hkr_69 _ _ _ _ _ _ _ hf hB (lv_sub hl [2, 3, 4, 0, 5, 6, 7, 1] rfl)

set_option maxRecDepth 100000 in
set_option maxHeartbeats 4000000 in
theorem jt_LongTrainModel_back_85 {p : Program} {l : Launch} {e : Env} {s : State} {m : MethodId} {below : List Frame} {meth : Method} {c : Code} {A : Nat → Prop} {D : va_G} {k : Nat → ClassId} {a_t : Nat} {d_t : Nat → Nat} {i_t : Nat → Int32} {j_t : Nat → Int64} {r_t_s : Nat → Int32} {r_t_wagons : Nat → Int32} {r_t_foremost : Nat → Int32} {r_t_bears : Nat → Int32} {n1 : Int32} {n2 : Int32} {n3 : Int32} {Q : Int32 → (Nat → Int32) → (Nat → Int32) → (Nat → Int32) → (Nat → Int32) → Prop}  {x1 : Int32} {x6 : Int32} {x7 : Int32} {kr_69 : (Int32) → (Int32) → (Int32) → (Int32) → Prop} (F : Fx p m c cX12_back 10 s ([.ref a_t, .int n1, .int n2, .int n3] : List Value).toArray RX12 D k) (hr : meth.sig.returnType = (some .int)) (hlk : meth.locks = false) (hA : ∀ q : Nat, s.heap.size ≤ q → A q) (hkr_69 : ∀ (x4 : Int32) (x5 : Int32) (x8 : Int32) (x9 : Int32) (H : Heap) (locs : List Loc) (ls : Array Slot), kr_69 x4 x5 x8 x9 → Bd D A s.heap (wd_LongTrainModel_back k a_t d_t i_t j_t r_t_s r_t_wagons r_t_foremost r_t_bears) H locs → lv_has ls 10 [(0, .ref a_t), (1, .int x1), (4, .int x4), (5, .int x5), (6, .int x6), (7, .int x7), (8, .int x8), (9, .int x9)] → W p l e { frames := 3, cells := 0, slots := 0, locals := 67 } s m ([.ref a_t, .int n1, .int n2, .int n3] : List Value).toArray below meth c H locs 0 0 (Ei below (fun r w => ∃ (i_t : Nat → Int32), ∃ (r_t_wagons : Nat → Int32), ∃ (r_t_foremost : Nat → Int32), ∃ (r_t_bears : Nat → Int32), w = (wd_LongTrainModel_back k a_t d_t i_t j_t r_t_s r_t_wagons r_t_foremost r_t_bears) ∧ Q r i_t r_t_wagons r_t_foremost r_t_bears) D k A ([.ref a_t, .int n1, .int n2, .int n3] : List Value).toArray s 0 0) (F0 m 69 ls [])) :
    ∀ (x4 : Int32) (x5 : Int32) (x8 : Int32) (H : Heap) (locs : List Loc) (ls : Array Slot), j_LongTrainModel_back_85 r_t_s r_t_wagons r_t_bears x1 x4 x5 x8 kr_69 → Bd D A s.heap (wd_LongTrainModel_back k a_t d_t i_t j_t r_t_s r_t_wagons r_t_foremost r_t_bears) H locs → lv_has ls 10 [(0, .ref a_t), (1, .int x1), (4, .int x4), (5, .int x5), (6, .int x6), (7, .int x7), (8, .int x8)] → W p l e { frames := 3, cells := 0, slots := 0, locals := 67 } s m ([.ref a_t, .int n1, .int n2, .int n3] : List Value).toArray below meth c H locs 0 0 (Ei below (fun r w => ∃ (i_t : Nat → Int32), ∃ (r_t_wagons : Nat → Int32), ∃ (r_t_foremost : Nat → Int32), ∃ (r_t_bears : Nat → Int32), w = (wd_LongTrainModel_back k a_t d_t i_t j_t r_t_s r_t_wagons r_t_foremost r_t_bears) ∧ Q r i_t r_t_wagons r_t_foremost r_t_bears) D k A ([.ref a_t, .int n1, .int n2, .int n3] : List Value).toArray s 0 0) (F0 m 85 ls []) := by
  have hx := F.x
  have hb := F.b
  intro x4 x5 x8 H locs ls hf hB hl
  unfold j_LongTrainModel_back_85 at hf
  refine lv_iload hx hb dX12_back_85 (lv_at hl 3 rfl) ?_
  refine lv_iload hx hb dX12_back_87 (lv_at hl 6 rfl) ?_
  refine lv_icmp_gt (tgt := 96) hx hb dX12_back_89 (by decide) (fun c_19 => ?_) (fun c_19 => ?_)
  · replace hf := hf.1 c_19
    refine lv_iconst (v := 0) hx hb dX12_back_96 (by decide) ?_
    exact jt_LongTrainModel_back_97 F hr hlk hA hkr_69 _ _ _ _ _ _ _ hf hB (lv_sub hl [0, 1, 2, 3, 4, 5, 6] rfl)
  · replace hf := hf.2 c_19
    refine lv_iconst (v := 1) hx hb dX12_back_92 (by decide) ?_
    refine lv_goto (tgt := 97) hx hb dX12_back_93 (by decide) ?_
    exact jt_LongTrainModel_back_97 F hr hlk hA hkr_69 _ _ _ _ _ _ _ hf hB (lv_sub hl [0, 1, 2, 3, 4, 5, 6] rfl)

set_option maxRecDepth 100000 in
set_option maxHeartbeats 4000000 in
theorem bt_LongTrainModel_back_69 {p : Program} {l : Launch} {e : Env} {s : State} {m : MethodId} {below : List Frame} {meth : Method} {c : Code} {A : Nat → Prop} {D : va_G} {k : Nat → ClassId} {a_t : Nat} {d_t : Nat → Nat} {i_t : Nat → Int32} {j_t : Nat → Int64} {r_t_s : Nat → Int32} {r_t_wagons : Nat → Int32} {r_t_foremost : Nat → Int32} {r_t_bears : Nat → Int32} {n1 : Int32} {n2 : Int32} {n3 : Int32} {Q : Int32 → (Nat → Int32) → (Nat → Int32) → (Nat → Int32) → (Nat → Int32) → Prop}  {x1 : Int32} {x6 : Int32} {x7 : Int32} {kx_69 : (Int32) → (Int32) → Prop} {kr_69 : (Int32) → (Int32) → (Int32) → (Int32) → Prop} (F : Fx p m c cX12_back 10 s ([.ref a_t, .int n1, .int n2, .int n3] : List Value).toArray RX12 D k) (hr : meth.sig.returnType = (some .int)) (hlk : meth.locks = false) (hA : ∀ q : Nat, s.heap.size ≤ q → A q) (hkx_69 : ∀ (x4 : Int32) (x5 : Int32) (H : Heap) (locs : List Loc) (ls : Array Slot), kx_69 x4 x5 → Bd D A s.heap (wd_LongTrainModel_back k a_t d_t i_t j_t r_t_s r_t_wagons r_t_foremost r_t_bears) H locs → lv_has ls 10 [(0, .ref a_t), (1, .int x1), (4, .int x4), (5, .int x5), (6, .int x6), (7, .int x7)] → W p l e { frames := 3, cells := 0, slots := 0, locals := 67 } s m ([.ref a_t, .int n1, .int n2, .int n3] : List Value).toArray below meth c H locs 0 0 (Ei below (fun r w => ∃ (i_t : Nat → Int32), ∃ (r_t_wagons : Nat → Int32), ∃ (r_t_foremost : Nat → Int32), ∃ (r_t_bears : Nat → Int32), w = (wd_LongTrainModel_back k a_t d_t i_t j_t r_t_s r_t_wagons r_t_foremost r_t_bears) ∧ Q r i_t r_t_wagons r_t_foremost r_t_bears) D k A ([.ref a_t, .int n1, .int n2, .int n3] : List Value).toArray s 0 0) (F0 m 170 ls [])) (hkr_69 : ∀ (x4 : Int32) (x5 : Int32) (x8 : Int32) (x9 : Int32) (H : Heap) (locs : List Loc) (ls : Array Slot), kr_69 x4 x5 x8 x9 → Bd D A s.heap (wd_LongTrainModel_back k a_t d_t i_t j_t r_t_s r_t_wagons r_t_foremost r_t_bears) H locs → lv_has ls 10 [(0, .ref a_t), (1, .int x1), (4, .int x4), (5, .int x5), (6, .int x6), (7, .int x7), (8, .int x8), (9, .int x9)] → W p l e { frames := 3, cells := 0, slots := 0, locals := 67 } s m ([.ref a_t, .int n1, .int n2, .int n3] : List Value).toArray below meth c H locs 0 0 (Ei below (fun r w => ∃ (i_t : Nat → Int32), ∃ (r_t_wagons : Nat → Int32), ∃ (r_t_foremost : Nat → Int32), ∃ (r_t_bears : Nat → Int32), w = (wd_LongTrainModel_back k a_t d_t i_t j_t r_t_s r_t_wagons r_t_foremost r_t_bears) ∧ Q r i_t r_t_wagons r_t_foremost r_t_bears) D k A ([.ref a_t, .int n1, .int n2, .int n3] : List Value).toArray s 0 0) (F0 m 69 ls [])) :
    ∀ (x4 : Int32) (x5 : Int32) (x8 : Int32) (x9 : Int32) (H : Heap) (locs : List Loc) (ls : Array Slot), b_LongTrainModel_back_69 r_t_s r_t_wagons r_t_bears x1 kx_69 kr_69 x4 x5 x8 x9 → Bd D A s.heap (wd_LongTrainModel_back k a_t d_t i_t j_t r_t_s r_t_wagons r_t_foremost r_t_bears) H locs → lv_has ls 10 [(0, .ref a_t), (1, .int x1), (4, .int x4), (5, .int x5), (6, .int x6), (7, .int x7), (8, .int x8), (9, .int x9)] → W p l e { frames := 3, cells := 0, slots := 0, locals := 67 } s m ([.ref a_t, .int n1, .int n2, .int n3] : List Value).toArray below meth c H locs 0 0 (Ei below (fun r w => ∃ (i_t : Nat → Int32), ∃ (r_t_wagons : Nat → Int32), ∃ (r_t_foremost : Nat → Int32), ∃ (r_t_bears : Nat → Int32), w = (wd_LongTrainModel_back k a_t d_t i_t j_t r_t_s r_t_wagons r_t_foremost r_t_bears) ∧ Q r i_t r_t_wagons r_t_foremost r_t_bears) D k A ([.ref a_t, .int n1, .int n2, .int n3] : List Value).toArray s 0 0) (F0 m 69 ls []) := by
  have hx := F.x
  have hb := F.b
  intro x4 x5 x8 x9 H locs ls hf hB hl
  unfold b_LongTrainModel_back_69 at hf
  refine lv_iload hx hb dX12_back_69 (lv_at hl 7 rfl) ?_
  refine lv_if_eq (tgt := 170) hx hb dX12_back_71 (by decide) (fun c_22 => ?_) (fun c_22 => ?_)
  · replace hf := hf.1 c_22
    exact hkx_69 _ _ _ _ _ hf hB (lv_sub hl [0, 1, 2, 3, 4, 5] rfl)
  · replace hf := hf.2 c_22
    refine lv_iload hx hb dX12_back_74 (lv_at hl 2 rfl) ?_
    refine lv_iload_n hx hb dX12_back_76 rfl (lv_at hl 1 rfl) ?_
    refine lv_icmp_gt (tgt := 85) hx hb dX12_back_77 (by decide) (fun c_21 => ?_) (fun c_21 => ?_)
    · replace hf := hf.1 c_21
      exact jt_LongTrainModel_back_85 F hr hlk hA hkr_69 _ _ _ _ _ _ hf hB (lv_sub hl [0, 1, 2, 3, 4, 5, 6] rfl)
    · replace hf := hf.2 c_21
      refine lv_iload hx hb dX12_back_80 (lv_at hl 3 rfl) ?_
      refine lv_if_le (tgt := 170) hx hb dX12_back_82 (by decide) (fun c_20 => ?_) (fun c_20 => ?_)
      · replace hf := hf.1 c_20
        exact hkx_69 _ _ _ _ _ hf hB (lv_sub hl [0, 1, 2, 3, 4, 5] rfl)
      · replace hf := hf.2 c_20
        exact jt_LongTrainModel_back_85 F hr hlk hA hkr_69 _ _ _ _ _ _ hf hB (lv_sub hl [0, 1, 2, 3, 4, 5, 6] rfl)

set_option maxRecDepth 100000 in
set_option maxHeartbeats 4000000 in
theorem lt_LongTrainModel_back_69 {p : Program} {l : Launch} {e : Env} {s : State} {m : MethodId} {below : List Frame} {meth : Method} {c : Code} {A : Nat → Prop} {D : va_G} {k : Nat → ClassId} {a_t : Nat} {d_t : Nat → Nat} {i_t : Nat → Int32} {j_t : Nat → Int64} {r_t_s : Nat → Int32} {r_t_wagons : Nat → Int32} {r_t_foremost : Nat → Int32} {r_t_bears : Nat → Int32} {n1 : Int32} {n2 : Int32} {n3 : Int32} {Q : Int32 → (Nat → Int32) → (Nat → Int32) → (Nat → Int32) → (Nat → Int32) → Prop}  {x1 : Int32} {x6 : Int32} {x7 : Int32} {kx_69 : (Int32) → (Int32) → Prop} (F : Fx p m c cX12_back 10 s ([.ref a_t, .int n1, .int n2, .int n3] : List Value).toArray RX12 D k) (hr : meth.sig.returnType = (some .int)) (hlk : meth.locks = false) (hA : ∀ q : Nat, s.heap.size ≤ q → A q) (hkx_69 : ∀ (x4 : Int32) (x5 : Int32) (H : Heap) (locs : List Loc) (ls : Array Slot), kx_69 x4 x5 → Bd D A s.heap (wd_LongTrainModel_back k a_t d_t i_t j_t r_t_s r_t_wagons r_t_foremost r_t_bears) H locs → lv_has ls 10 [(0, .ref a_t), (1, .int x1), (4, .int x4), (5, .int x5), (6, .int x6), (7, .int x7)] → W p l e { frames := 3, cells := 0, slots := 0, locals := 67 } s m ([.ref a_t, .int n1, .int n2, .int n3] : List Value).toArray below meth c H locs 0 0 (Ei below (fun r w => ∃ (i_t : Nat → Int32), ∃ (r_t_wagons : Nat → Int32), ∃ (r_t_foremost : Nat → Int32), ∃ (r_t_bears : Nat → Int32), w = (wd_LongTrainModel_back k a_t d_t i_t j_t r_t_s r_t_wagons r_t_foremost r_t_bears) ∧ Q r i_t r_t_wagons r_t_foremost r_t_bears) D k A ([.ref a_t, .int n1, .int n2, .int n3] : List Value).toArray s 0 0) (F0 m 170 ls [])) :
    ∀ n : Nat, ∀ (x4 : Int32) (x5 : Int32) (x8 : Int32) (x9 : Int32) (H : Heap) (locs : List Loc) (ls : Array Slot), lp_LongTrainModel_back_69 r_t_s r_t_wagons r_t_bears x1 kx_69 n x4 x5 x8 x9 → Bd D A s.heap (wd_LongTrainModel_back k a_t d_t i_t j_t r_t_s r_t_wagons r_t_foremost r_t_bears) H locs → lv_has ls 10 [(0, .ref a_t), (1, .int x1), (4, .int x4), (5, .int x5), (6, .int x6), (7, .int x7), (8, .int x8), (9, .int x9)] → W p l e { frames := 3, cells := 0, slots := 0, locals := 67 } s m ([.ref a_t, .int n1, .int n2, .int n3] : List Value).toArray below meth c H locs 0 0 (Ei below (fun r w => ∃ (i_t : Nat → Int32), ∃ (r_t_wagons : Nat → Int32), ∃ (r_t_foremost : Nat → Int32), ∃ (r_t_bears : Nat → Int32), w = (wd_LongTrainModel_back k a_t d_t i_t j_t r_t_s r_t_wagons r_t_foremost r_t_bears) ∧ Q r i_t r_t_wagons r_t_foremost r_t_bears) D k A ([.ref a_t, .int n1, .int n2, .int n3] : List Value).toArray s 0 0) (F0 m 69 ls []) := by
  intro n
  induction n with
  | zero => intro x4 x5 x8 x9 H locs ls hf; exact absurd hf (fun h => h)
  | succ n ih => exact bt_LongTrainModel_back_69 F hr hlk hA hkx_69 ih

set_option maxRecDepth 100000 in
set_option maxHeartbeats 4000000 in
theorem jt_LongTrainModel_back_40 {p : Program} {l : Launch} {e : Env} {s : State} {m : MethodId} {below : List Frame} {meth : Method} {c : Code} {A : Nat → Prop} {D : va_G} {k : Nat → ClassId} {a_t : Nat} {d_t : Nat → Nat} {j_t : Nat → Int64} {r_t_s : Nat → Int32} {n1 : Int32} {n2 : Int32} {n3 : Int32} {Q : Int32 → (Nat → Int32) → (Nat → Int32) → (Nat → Int32) → (Nat → Int32) → Prop}  {x1 : Int32} {kr_29 : (Int32) → (Int32) → (Int32) → (Int32) → (Nat → Int32) → (Nat → Int32) → (Nat → Int32) → (Nat → Int32) → Prop} {kx_29 : (Int32) → (Int32) → (Int32) → (Nat → Int32) → (Nat → Int32) → (Nat → Int32) → (Nat → Int32) → Prop} (F : Fx p m c cX12_back 10 s ([.ref a_t, .int n1, .int n2, .int n3] : List Value).toArray RX12 D k) (hr : meth.sig.returnType = (some .int)) (hlk : meth.locks = false) (hA : ∀ q : Nat, s.heap.size ≤ q → A q) (hkr_29 : ∀ (x4 : Int32) (x5 : Int32) (x6 : Int32) (x7 : Int32) (i_t : Nat → Int32) (r_t_wagons : Nat → Int32) (r_t_foremost : Nat → Int32) (r_t_bears : Nat → Int32) (H : Heap) (locs : List Loc) (ls : Array Slot), kr_29 x4 x5 x6 x7 i_t r_t_wagons r_t_foremost r_t_bears → Bd D A s.heap (wd_LongTrainModel_back k a_t d_t i_t j_t r_t_s r_t_wagons r_t_foremost r_t_bears) H locs → lv_has ls 10 [(0, .ref a_t), (1, .int x1), (4, .int x4), (5, .int x5), (6, .int x6), (7, .int x7)] → W p l e { frames := 3, cells := 0, slots := 0, locals := 67 } s m ([.ref a_t, .int n1, .int n2, .int n3] : List Value).toArray below meth c H locs 0 0 (Ei below (fun r w => ∃ (i_t : Nat → Int32), ∃ (r_t_wagons : Nat → Int32), ∃ (r_t_foremost : Nat → Int32), ∃ (r_t_bears : Nat → Int32), w = (wd_LongTrainModel_back k a_t d_t i_t j_t r_t_s r_t_wagons r_t_foremost r_t_bears) ∧ Q r i_t r_t_wagons r_t_foremost r_t_bears) D k A ([.ref a_t, .int n1, .int n2, .int n3] : List Value).toArray s 0 0) (F0 m 29 ls [])) (hkx_29 : ∀ (x4 : Int32) (x5 : Int32) (x6 : Int32) (i_t : Nat → Int32) (r_t_wagons : Nat → Int32) (r_t_foremost : Nat → Int32) (r_t_bears : Nat → Int32) (H : Heap) (locs : List Loc) (ls : Array Slot), kx_29 x4 x5 x6 i_t r_t_wagons r_t_foremost r_t_bears → Bd D A s.heap (wd_LongTrainModel_back k a_t d_t i_t j_t r_t_s r_t_wagons r_t_foremost r_t_bears) H locs → lv_has ls 10 [(1, .int x1), (4, .int x4), (5, .int x5), (6, .int x6)] → W p l e { frames := 3, cells := 0, slots := 0, locals := 67 } s m ([.ref a_t, .int n1, .int n2, .int n3] : List Value).toArray below meth c H locs 0 0 (Ei below (fun r w => ∃ (i_t : Nat → Int32), ∃ (r_t_wagons : Nat → Int32), ∃ (r_t_foremost : Nat → Int32), ∃ (r_t_bears : Nat → Int32), w = (wd_LongTrainModel_back k a_t d_t i_t j_t r_t_s r_t_wagons r_t_foremost r_t_bears) ∧ Q r i_t r_t_wagons r_t_foremost r_t_bears) D k A ([.ref a_t, .int n1, .int n2, .int n3] : List Value).toArray s 0 0) (F0 m 179 ls [])) :
    ∀ (i_t : Nat → Int32) (r_t_wagons : Nat → Int32) (r_t_foremost : Nat → Int32) (r_t_bears : Nat → Int32) (x4 : Int32) (x5 : Int32) (x6 : Int32) (x7 : Int32) (H : Heap) (locs : List Loc) (ls : Array Slot), j_LongTrainModel_back_40 i_t r_t_s r_t_wagons r_t_foremost r_t_bears x1 x4 x5 x6 x7 kr_29 kx_29 → Bd D A s.heap (wd_LongTrainModel_back k a_t d_t i_t j_t r_t_s r_t_wagons r_t_foremost r_t_bears) H locs → lv_has ls 10 [(0, .ref a_t), (1, .int x1), (4, .int x4), (5, .int x5), (6, .int x6), (7, .int x7)] → W p l e { frames := 3, cells := 0, slots := 0, locals := 67 } s m ([.ref a_t, .int n1, .int n2, .int n3] : List Value).toArray below meth c H locs 0 0 (Ei below (fun r w => ∃ (i_t : Nat → Int32), ∃ (r_t_wagons : Nat → Int32), ∃ (r_t_foremost : Nat → Int32), ∃ (r_t_bears : Nat → Int32), w = (wd_LongTrainModel_back k a_t d_t i_t j_t r_t_s r_t_wagons r_t_foremost r_t_bears) ∧ Q r i_t r_t_wagons r_t_foremost r_t_bears) D k A ([.ref a_t, .int n1, .int n2, .int n3] : List Value).toArray s 0 0) (F0 m 40 ls []) := by
  have hx := F.x
  have hb := F.b
  intro i_t r_t_wagons r_t_foremost r_t_bears x4 x5 x6 x7 H locs ls hf hB hl
  unfold j_LongTrainModel_back_40 at hf
  refine lv_iload hx hb dX12_back_40 (lv_at hl 5 rfl) ?_
  refine lv_aload_n hx hb dX12_back_42 rfl (lv_at hl 0 rfl) ?_
  refine g_get (w := .ref (d_t 6)) F hB 0 rfl fl_RX12_33 rfl dX12_back_43 ?_
  refine lv_iconst (v := 0) hx hb dX12_back_46 (by decide) ?_
  refine g_iald F hB 1 rfl (vp_in_iff.mpr (by decide +kernel)) dX12_back_47 ?_
  refine W.eq (g2 := F0 m 48 ls [.int (r_t_s 0), .int x7]) rfl ?_
  refine lv_icmp_ge (tgt := 179) hx hb dX12_back_48 (by decide) (fun c_26 => ?_) (fun c_26 => ?_)
  · replace hf := hf.1 c_26
    exact hkx_29 _ _ _ _ _ _ _ _ _ _ hf hB (lv_sub hl [1, 2, 3, 4] rfl)
  · replace hf := hf.2 c_26
    refine lv_aload_n hx hb dX12_back_51 rfl (lv_at hl 0 rfl) ?_
    refine lv_iload hx hb dX12_back_52 (lv_at hl 5 rfl) ?_
    refine k_vv (wr := []) (rest := []) F hA hB (c_LongTrainModel_withAt l D k a_t d_t i_t j_t r_t_s r_t_wagons r_t_foremost r_t_bears x7 _  hf) ml_RX12_351 mv_yX12_withAt [0, 1, 2, 3, 4] [] rfl rfl (by decide) (by decide) (by decide) 0 rfl rfl rfl hl.1 rfl (Nat.le_of_ble_eq_true rfl) ⟨Nat.le_of_ble_eq_true rfl, Nat.le_of_ble_eq_true rfl⟩ ⟨Nat.le_of_ble_eq_true rfl, Nat.le_of_ble_eq_true rfl⟩ dX12_back_54 (fun w1 H locs hq hB => ?_)
    obtain ⟨i_t_6, r_t_wagons_7, r_t_foremost_8, r_t_bears_9, rfl, hf⟩ := hq
    replace hB : Bd D A s.heap (wd_LongTrainModel_back k a_t d_t i_t_6 j_t r_t_s r_t_wagons_7 r_t_foremost_8 r_t_bears_9) H locs := hB.sub [0, 1, 2, 3, 4] (by decide) rfl
    refine lv_aload_n hx hb dX12_back_57 rfl (lv_at hl 0 rfl) ?_
    refine g_get (w := .ref (d_t 6)) F hB 0 rfl fl_RX12_33 rfl dX12_back_58 ?_
    refine lv_bipush (v := 9) hx hb dX12_back_61 (by decide) ?_
    refine g_iald F hB 1 rfl (vp_in_iff.mpr (by decide +kernel)) dX12_back_63 ?_
    refine W.eq (g2 := F0 m 64 ls [.int (r_t_s 9)]) rfl ?_
    refine lv_istore (lv' := [(8, .int (r_t_s 9)), (0, .ref a_t), (1, .int x1), (4, .int x4), (5, .int x5), (6, .int x6), (7, .int x7)]) hx hb dX12_back_64 hl (by decide) rfl (fun ls hl => ?_)
    refine lv_iconst (v := 1) hx hb dX12_back_66 (by decide) ?_
    refine lv_istore (lv' := [(9, .int (1 : Int32)), (8, .int (r_t_s 9)), (0, .ref a_t), (1, .int x1), (4, .int x4), (5, .int x5), (6, .int x6), (7, .int x7)]) hx hb dX12_back_67 hl (by decide) rfl (fun ls hl => ?_)
    obtain ⟨n_25, hf⟩ := hf
    refine lt_LongTrainModel_back_69 F hr hlk hA (fun x4_23 x5_24 H locs ls hf hB hl => ?_) n_25 _ _ _ _ _ _ _ hf hB (lv_sub hl [2, 3, 4, 5, 6, 7, 1, 0] rfl)
    refine lv_iinc (v := (x6 + 1)) (lv' := [(6, .int (x6 + 1)), (0, .ref a_t), (1, .int x1), (4, .int x4_23), (5, .int x5_24), (7, .int x7)]) (k := 4) hx hb dX12_back_170 hl rfl rfl (by decide) rfl (fun ls hl => ?_)
    refine lv_iinc (v := (x7 + 1)) (lv' := [(7, .int (x7 + 1)), (6, .int (x6 + 1)), (0, .ref a_t), (1, .int x1), (4, .int x4_23), (5, .int x5_24)]) (k := 5) hx hb dX12_back_173 hl rfl rfl (by decide) rfl (fun ls hl => ?_)
    refine lv_goto (tgt := 29) hx hb dX12_back_176 (by decide) ?_
    exact hkr_29 _ _ _ _ _ _ _ _ _ _ _ hf hB (lv_sub hl [2, 3, 4, 5, 1, 0] rfl)

set_option maxRecDepth 100000 in
set_option maxHeartbeats 4000000 in
theorem bt_LongTrainModel_back_29 {p : Program} {l : Launch} {e : Env} {s : State} {m : MethodId} {below : List Frame} {meth : Method} {c : Code} {A : Nat → Prop} {D : va_G} {k : Nat → ClassId} {a_t : Nat} {d_t : Nat → Nat} {j_t : Nat → Int64} {r_t_s : Nat → Int32} {n1 : Int32} {n2 : Int32} {n3 : Int32} {Q : Int32 → (Nat → Int32) → (Nat → Int32) → (Nat → Int32) → (Nat → Int32) → Prop}  {x1 : Int32} {kx_29 : (Int32) → (Int32) → (Int32) → (Nat → Int32) → (Nat → Int32) → (Nat → Int32) → (Nat → Int32) → Prop} {kr_29 : (Int32) → (Int32) → (Int32) → (Int32) → (Nat → Int32) → (Nat → Int32) → (Nat → Int32) → (Nat → Int32) → Prop} (F : Fx p m c cX12_back 10 s ([.ref a_t, .int n1, .int n2, .int n3] : List Value).toArray RX12 D k) (hr : meth.sig.returnType = (some .int)) (hlk : meth.locks = false) (hA : ∀ q : Nat, s.heap.size ≤ q → A q) (hkx_29 : ∀ (x4 : Int32) (x5 : Int32) (x6 : Int32) (i_t : Nat → Int32) (r_t_wagons : Nat → Int32) (r_t_foremost : Nat → Int32) (r_t_bears : Nat → Int32) (H : Heap) (locs : List Loc) (ls : Array Slot), kx_29 x4 x5 x6 i_t r_t_wagons r_t_foremost r_t_bears → Bd D A s.heap (wd_LongTrainModel_back k a_t d_t i_t j_t r_t_s r_t_wagons r_t_foremost r_t_bears) H locs → lv_has ls 10 [(1, .int x1), (4, .int x4), (5, .int x5), (6, .int x6)] → W p l e { frames := 3, cells := 0, slots := 0, locals := 67 } s m ([.ref a_t, .int n1, .int n2, .int n3] : List Value).toArray below meth c H locs 0 0 (Ei below (fun r w => ∃ (i_t : Nat → Int32), ∃ (r_t_wagons : Nat → Int32), ∃ (r_t_foremost : Nat → Int32), ∃ (r_t_bears : Nat → Int32), w = (wd_LongTrainModel_back k a_t d_t i_t j_t r_t_s r_t_wagons r_t_foremost r_t_bears) ∧ Q r i_t r_t_wagons r_t_foremost r_t_bears) D k A ([.ref a_t, .int n1, .int n2, .int n3] : List Value).toArray s 0 0) (F0 m 179 ls [])) (hkr_29 : ∀ (x4 : Int32) (x5 : Int32) (x6 : Int32) (x7 : Int32) (i_t : Nat → Int32) (r_t_wagons : Nat → Int32) (r_t_foremost : Nat → Int32) (r_t_bears : Nat → Int32) (H : Heap) (locs : List Loc) (ls : Array Slot), kr_29 x4 x5 x6 x7 i_t r_t_wagons r_t_foremost r_t_bears → Bd D A s.heap (wd_LongTrainModel_back k a_t d_t i_t j_t r_t_s r_t_wagons r_t_foremost r_t_bears) H locs → lv_has ls 10 [(0, .ref a_t), (1, .int x1), (4, .int x4), (5, .int x5), (6, .int x6), (7, .int x7)] → W p l e { frames := 3, cells := 0, slots := 0, locals := 67 } s m ([.ref a_t, .int n1, .int n2, .int n3] : List Value).toArray below meth c H locs 0 0 (Ei below (fun r w => ∃ (i_t : Nat → Int32), ∃ (r_t_wagons : Nat → Int32), ∃ (r_t_foremost : Nat → Int32), ∃ (r_t_bears : Nat → Int32), w = (wd_LongTrainModel_back k a_t d_t i_t j_t r_t_s r_t_wagons r_t_foremost r_t_bears) ∧ Q r i_t r_t_wagons r_t_foremost r_t_bears) D k A ([.ref a_t, .int n1, .int n2, .int n3] : List Value).toArray s 0 0) (F0 m 29 ls [])) :
    ∀ (x4 : Int32) (x5 : Int32) (x6 : Int32) (x7 : Int32) (i_t : Nat → Int32) (r_t_wagons : Nat → Int32) (r_t_foremost : Nat → Int32) (r_t_bears : Nat → Int32) (H : Heap) (locs : List Loc) (ls : Array Slot), b_LongTrainModel_back_29 r_t_s x1 kx_29 kr_29 x4 x5 x6 x7 i_t r_t_wagons r_t_foremost r_t_bears → Bd D A s.heap (wd_LongTrainModel_back k a_t d_t i_t j_t r_t_s r_t_wagons r_t_foremost r_t_bears) H locs → lv_has ls 10 [(0, .ref a_t), (1, .int x1), (4, .int x4), (5, .int x5), (6, .int x6), (7, .int x7)] → W p l e { frames := 3, cells := 0, slots := 0, locals := 67 } s m ([.ref a_t, .int n1, .int n2, .int n3] : List Value).toArray below meth c H locs 0 0 (Ei below (fun r w => ∃ (i_t : Nat → Int32), ∃ (r_t_wagons : Nat → Int32), ∃ (r_t_foremost : Nat → Int32), ∃ (r_t_bears : Nat → Int32), w = (wd_LongTrainModel_back k a_t d_t i_t j_t r_t_s r_t_wagons r_t_foremost r_t_bears) ∧ Q r i_t r_t_wagons r_t_foremost r_t_bears) D k A ([.ref a_t, .int n1, .int n2, .int n3] : List Value).toArray s 0 0) (F0 m 29 ls []) := by
  have hx := F.x
  have hb := F.b
  intro x4 x5 x6 x7 i_t r_t_wagons r_t_foremost r_t_bears H locs ls hf hB hl
  unfold b_LongTrainModel_back_29 at hf
  refine lv_iload hx hb dX12_back_29 (lv_at hl 2 rfl) ?_
  refine lv_iload_n hx hb dX12_back_31 rfl (lv_at hl 1 rfl) ?_
  refine lv_icmp_gt (tgt := 40) hx hb dX12_back_32 (by decide) (fun c_28 => ?_) (fun c_28 => ?_)
  · replace hf := hf.1 c_28
    exact jt_LongTrainModel_back_40 F hr hlk hA hkr_29 hkx_29 _ _ _ _ _ _ _ _ _ _ _ hf hB (lv_sub hl [0, 1, 2, 3, 4, 5] rfl)
  · replace hf := hf.2 c_28
    refine lv_iload hx hb dX12_back_35 (lv_at hl 3 rfl) ?_
    refine lv_if_le (tgt := 179) hx hb dX12_back_37 (by decide) (fun c_27 => ?_) (fun c_27 => ?_)
    · replace hf := hf.1 c_27
      exact hkx_29 _ _ _ _ _ _ _ _ _ _ hf hB (lv_sub hl [1, 2, 3, 4] rfl)
    · replace hf := hf.2 c_27
      exact jt_LongTrainModel_back_40 F hr hlk hA hkr_29 hkx_29 _ _ _ _ _ _ _ _ _ _ _ hf hB (lv_sub hl [0, 1, 2, 3, 4, 5] rfl)

set_option maxRecDepth 100000 in
set_option maxHeartbeats 4000000 in
theorem lt_LongTrainModel_back_29 {p : Program} {l : Launch} {e : Env} {s : State} {m : MethodId} {below : List Frame} {meth : Method} {c : Code} {A : Nat → Prop} {D : va_G} {k : Nat → ClassId} {a_t : Nat} {d_t : Nat → Nat} {j_t : Nat → Int64} {r_t_s : Nat → Int32} {n1 : Int32} {n2 : Int32} {n3 : Int32} {Q : Int32 → (Nat → Int32) → (Nat → Int32) → (Nat → Int32) → (Nat → Int32) → Prop}  {x1 : Int32} {kx_29 : (Int32) → (Int32) → (Int32) → (Nat → Int32) → (Nat → Int32) → (Nat → Int32) → (Nat → Int32) → Prop} (F : Fx p m c cX12_back 10 s ([.ref a_t, .int n1, .int n2, .int n3] : List Value).toArray RX12 D k) (hr : meth.sig.returnType = (some .int)) (hlk : meth.locks = false) (hA : ∀ q : Nat, s.heap.size ≤ q → A q) (hkx_29 : ∀ (x4 : Int32) (x5 : Int32) (x6 : Int32) (i_t : Nat → Int32) (r_t_wagons : Nat → Int32) (r_t_foremost : Nat → Int32) (r_t_bears : Nat → Int32) (H : Heap) (locs : List Loc) (ls : Array Slot), kx_29 x4 x5 x6 i_t r_t_wagons r_t_foremost r_t_bears → Bd D A s.heap (wd_LongTrainModel_back k a_t d_t i_t j_t r_t_s r_t_wagons r_t_foremost r_t_bears) H locs → lv_has ls 10 [(1, .int x1), (4, .int x4), (5, .int x5), (6, .int x6)] → W p l e { frames := 3, cells := 0, slots := 0, locals := 67 } s m ([.ref a_t, .int n1, .int n2, .int n3] : List Value).toArray below meth c H locs 0 0 (Ei below (fun r w => ∃ (i_t : Nat → Int32), ∃ (r_t_wagons : Nat → Int32), ∃ (r_t_foremost : Nat → Int32), ∃ (r_t_bears : Nat → Int32), w = (wd_LongTrainModel_back k a_t d_t i_t j_t r_t_s r_t_wagons r_t_foremost r_t_bears) ∧ Q r i_t r_t_wagons r_t_foremost r_t_bears) D k A ([.ref a_t, .int n1, .int n2, .int n3] : List Value).toArray s 0 0) (F0 m 179 ls [])) :
    ∀ n : Nat, ∀ (x4 : Int32) (x5 : Int32) (x6 : Int32) (x7 : Int32) (i_t : Nat → Int32) (r_t_wagons : Nat → Int32) (r_t_foremost : Nat → Int32) (r_t_bears : Nat → Int32) (H : Heap) (locs : List Loc) (ls : Array Slot), lp_LongTrainModel_back_29 r_t_s x1 kx_29 n x4 x5 x6 x7 i_t r_t_wagons r_t_foremost r_t_bears → Bd D A s.heap (wd_LongTrainModel_back k a_t d_t i_t j_t r_t_s r_t_wagons r_t_foremost r_t_bears) H locs → lv_has ls 10 [(0, .ref a_t), (1, .int x1), (4, .int x4), (5, .int x5), (6, .int x6), (7, .int x7)] → W p l e { frames := 3, cells := 0, slots := 0, locals := 67 } s m ([.ref a_t, .int n1, .int n2, .int n3] : List Value).toArray below meth c H locs 0 0 (Ei below (fun r w => ∃ (i_t : Nat → Int32), ∃ (r_t_wagons : Nat → Int32), ∃ (r_t_foremost : Nat → Int32), ∃ (r_t_bears : Nat → Int32), w = (wd_LongTrainModel_back k a_t d_t i_t j_t r_t_s r_t_wagons r_t_foremost r_t_bears) ∧ Q r i_t r_t_wagons r_t_foremost r_t_bears) D k A ([.ref a_t, .int n1, .int n2, .int n3] : List Value).toArray s 0 0) (F0 m 29 ls []) := by
  intro n
  induction n with
  | zero => intro x4 x5 x6 x7 i_t r_t_wagons r_t_foremost r_t_bears H locs ls hf; exact absurd hf (fun h => h)
  | succ n ih => exact bt_LongTrainModel_back_29 F hr hlk hA hkx_29 ih

set_option maxRecDepth 100000 in
set_option maxHeartbeats 4000000 in
theorem c_LongTrainModel_back (l : Launch) (D : va_G) (k : Nat → ClassId) (a_t : Nat) (d_t : Nat → Nat) (i_t : Nat → Int32) (j_t : Nat → Int64) (r_t_s : Nat → Int32) (r_t_wagons : Nat → Int32) (r_t_foremost : Nat → Int32) (r_t_bears : Nat → Int32) (n1 : Int32) (n2 : Int32) (n3 : Int32) (Q : Int32 → (Nat → Int32) → (Nat → Int32) → (Nat → Int32) → (Nat → Int32) → Prop)  (hf : w_LongTrainModel_back i_t r_t_s r_t_wagons r_t_foremost r_t_bears n1 n2 n3 Q) : CtI l yX12_back cX12_back 10 (some .int) 3 67 0 0 D k [.ref a_t, .int n1, .int n2, .int n3] (wd_LongTrainModel_back k a_t d_t i_t j_t r_t_s r_t_wagons r_t_foremost r_t_bears) (fun r w => ∃ (i_t : Nat → Int32), ∃ (r_t_wagons : Nat → Int32), ∃ (r_t_foremost : Nat → Int32), ∃ (r_t_bears : Nat → Int32), w = (wd_LongTrainModel_back k a_t d_t i_t j_t r_t_s r_t_wagons r_t_foremost r_t_bears) ∧ Q r i_t r_t_wagons r_t_foremost r_t_bears) := by
  refine CtI.of (by decide) (Nat.le_of_ble_eq_true rfl) ?_
  intro p e s m below meth c A F hr hlk hnm hA hB ls hl
  have hx := F.x
  have hb := F.b
  unfold w_LongTrainModel_back at hf
  replace hl : lv_has ls 10 [(0, .ref a_t), (1, .int n1), (2, .int n2), (3, .int n3)] := hl
  refine lv_aload_n hx hb dX12_back_0 rfl (lv_at hl 0 rfl) ?_
  refine lv_iconst (v := 0) hx hb dX12_back_1 (by decide) ?_
  refine g_puti F hB 0 rfl fl_RX12_1 rfl (wd_LongTrainModel_back k a_t d_t (upd i_t 0 (0 : Int32)) j_t r_t_s r_t_wagons r_t_foremost r_t_bears) rfl dX12_back_2 (fun H locs hB => ?_)
  refine lv_aload_n hx hb dX12_back_5 rfl (lv_at hl 0 rfl) ?_
  refine lv_iload_n hx hb dX12_back_6 rfl (lv_at hl 1 rfl) ?_
  refine lv_iload_n hx hb dX12_back_7 rfl (lv_at hl 2 rfl) ?_
  refine lv_iload_n hx hb dX12_back_8 rfl (lv_at hl 3 rfl) ?_
  refine k_vi (wr := [((d_t 23), ai k 20 r_t_foremost), ((d_t 24), ai k 20 r_t_bears)]) (rest := []) F hA hB (c_LongTrainModel_isWalk l D k a_t d_t (upd i_t 0 (0 : Int32)) j_t r_t_s r_t_wagons n1 n2 n3 _  hf) ml_RX12_348 mv_yX12_isWalk [0, 1, 2] [3, 4] rfl rfl (by decide) (by decide) (by decide) 0 rfl rfl rfl hl.1 rfl (Nat.le_of_ble_eq_true rfl) ⟨Nat.le_of_ble_eq_true rfl, Nat.le_of_ble_eq_true rfl⟩ ⟨Nat.le_of_ble_eq_true rfl, Nat.le_of_ble_eq_true rfl⟩ dX12_back_9 (fun z_3 w1 H locs hq hB => ?_)
  obtain ⟨h_4, i_t_1, r_t_wagons_2, rfl, hf⟩ := hq
  replace hB : Bd D A s.heap (wd_LongTrainModel_back k a_t d_t i_t_1 j_t r_t_s r_t_wagons_2 r_t_foremost r_t_bears) H locs := hB.sub [2, 3, 4, 0, 1] (by decide) rfl
  refine lv_if_ne (tgt := 17) hx hb dX12_back_12 (by decide) (fun c_39 => ?_) (fun c_39 => ?_)
  · replace hf := hf.1 c_39
    refine lv_iload_n hx hb dX12_back_17 rfl (lv_at hl 2 rfl) ?_
    refine lv_istore (lv' := [(4, .int n2), (0, .ref a_t), (1, .int n1), (2, .int n2), (3, .int n3)]) hx hb dX12_back_18 hl (by decide) rfl (fun ls hl => ?_)
    refine lv_iconst (v := 0) hx hb dX12_back_20 (by decide) ?_
    refine lv_istore (lv' := [(5, .int (0 : Int32)), (4, .int n2), (0, .ref a_t), (1, .int n1), (2, .int n2), (3, .int n3)]) hx hb dX12_back_21 hl (by decide) rfl (fun ls hl => ?_)
    refine lv_iconst (v := 0) hx hb dX12_back_23 (by decide) ?_
    refine lv_istore (lv' := [(6, .int (0 : Int32)), (5, .int (0 : Int32)), (4, .int n2), (0, .ref a_t), (1, .int n1), (2, .int n2), (3, .int n3)]) hx hb dX12_back_24 hl (by decide) rfl (fun ls hl => ?_)
    refine lv_iload_n hx hb dX12_back_26 rfl (lv_at hl 6 rfl) ?_
    refine lv_istore (lv' := [(7, .int n3), (6, .int (0 : Int32)), (5, .int (0 : Int32)), (4, .int n2), (0, .ref a_t), (1, .int n1), (2, .int n2), (3, .int n3)]) hx hb dX12_back_27 hl (by decide) rfl (fun ls hl => ?_)
    obtain ⟨n_38, hf⟩ := hf
    refine lt_LongTrainModel_back_29 F hr hlk hA (fun x4_29 x5_30 x6_31 i_t_32 r_t_wagons_33 r_t_foremost_34 r_t_bears_35 H locs ls hf hB hl => ?_) n_38 _ _ _ _ _ _ _ _ _ _ _ hf hB (lv_sub hl [4, 5, 3, 2, 1, 0] rfl)
    refine lv_iload hx hb dX12_back_179 (lv_at hl 1 rfl) ?_
    refine lv_iload_n hx hb dX12_back_181 rfl (lv_at hl 0 rfl) ?_
    refine lv_icmp_ne (tgt := 195) hx hb dX12_back_182 (by decide) (fun c_37 => ?_) (fun c_37 => ?_)
    · replace hf := hf.1 c_37
      refine lv_iconst (v := -1) hx hb dX12_back_195 (by decide) ?_
      exact r_i F hr hlk hB ⟨_, _, _, _, rfl, hf⟩ dX12_back_196
    · replace hf := hf.2 c_37
      refine lv_iload hx hb dX12_back_185 (lv_at hl 2 rfl) ?_
      refine lv_if_ne (tgt := 195) hx hb dX12_back_187 (by decide) (fun c_36 => ?_) (fun c_36 => ?_)
      · replace hf := hf.1 c_36
        refine lv_iconst (v := -1) hx hb dX12_back_195 (by decide) ?_
        exact r_i F hr hlk hB ⟨_, _, _, _, rfl, hf⟩ dX12_back_196
      · replace hf := hf.2 c_36
        refine lv_iload hx hb dX12_back_190 (lv_at hl 3 rfl) ?_
        refine lv_goto (tgt := 196) hx hb dX12_back_192 (by decide) ?_
        exact r_i F hr hlk hB ⟨_, _, _, _, rfl, hf⟩ dX12_back_196
  · replace hf := hf.2 c_39
    refine lv_iconst (v := -1) hx hb dX12_back_15 (by decide) ?_
    exact r_i F hr hlk hB ⟨_, _, _, _, rfl, hf⟩ dX12_back_16

/-! LongTrainModel.loads -/
set_option maxRecDepth 100000 in
set_option maxHeartbeats 4000000 in
theorem bt_LongTrainModel_loads_29 {p : Program} {l : Launch} {e : Env} {s : State} {m : MethodId} {below : List Frame} {meth : Method} {c : Code} {A : Nat → Prop} {D : va_G} {k : Nat → ClassId} {a_t : Nat} {d_t : Nat → Nat} {i_t : Nat → Int32} {j_t : Nat → Int64} {r_t_tape : Nat → Int32} {r_t_s : Nat → Int32} {r_t_loadMay : Nat → Int32} {r_t_mostLoads : Nat → Int32} {r_t_wagons : Nat → Int32} {r_t_foremost : Nat → Int32} {r_t_bears : Nat → Int32} {r_t_loadAt : Nat → Int32}  {Q : Int32 → (Nat → Int32) → (Nat → Int32) → (Nat → Int32) → (Nat → Int32) → (Nat → Int32) → (Nat → Int32) → (Nat → Int32) → Prop}  {kx_29 : Prop} {kr_29 : (Int32) → Prop} (F : Fx p m c cX12_loads 6 s ([.ref a_t] : List Value).toArray RX12 D k) (hr : meth.sig.returnType = (some .int)) (hlk : meth.locks = false) (hA : ∀ q : Nat, s.heap.size ≤ q → A q) (hkx_29 : ∀ (H : Heap) (locs : List Loc) (ls : Array Slot), kx_29 → Bd D A s.heap (wd_LongTrainModel_loads k a_t d_t i_t j_t r_t_tape r_t_s r_t_loadMay r_t_mostLoads r_t_wagons r_t_foremost r_t_bears r_t_loadAt) H locs → lv_has ls 6 [(0, .ref a_t)] → W p l e { frames := 4, cells := 0, slots := 0, locals := 89 } s m ([.ref a_t] : List Value).toArray below meth c H locs 0 0 (Ei below (fun r w => ∃ (i_t : Nat → Int32), ∃ (r_t_loadMay : Nat → Int32), ∃ (r_t_mostLoads : Nat → Int32), ∃ (r_t_wagons : Nat → Int32), ∃ (r_t_foremost : Nat → Int32), ∃ (r_t_bears : Nat → Int32), ∃ (r_t_loadAt : Nat → Int32), w = (wd_LongTrainModel_loads k a_t d_t i_t j_t r_t_tape r_t_s r_t_loadMay r_t_mostLoads r_t_wagons r_t_foremost r_t_bears r_t_loadAt) ∧ Q r i_t r_t_loadMay r_t_mostLoads r_t_wagons r_t_foremost r_t_bears r_t_loadAt) D k A ([.ref a_t] : List Value).toArray s 0 0) (F0 m 57 ls [])) (hkr_29 : ∀ (x1 : Int32) (H : Heap) (locs : List Loc) (ls : Array Slot), kr_29 x1 → Bd D A s.heap (wd_LongTrainModel_loads k a_t d_t i_t j_t r_t_tape r_t_s r_t_loadMay r_t_mostLoads r_t_wagons r_t_foremost r_t_bears r_t_loadAt) H locs → lv_has ls 6 [(0, .ref a_t), (1, .int x1)] → W p l e { frames := 4, cells := 0, slots := 0, locals := 89 } s m ([.ref a_t] : List Value).toArray below meth c H locs 0 0 (Ei below (fun r w => ∃ (i_t : Nat → Int32), ∃ (r_t_loadMay : Nat → Int32), ∃ (r_t_mostLoads : Nat → Int32), ∃ (r_t_wagons : Nat → Int32), ∃ (r_t_foremost : Nat → Int32), ∃ (r_t_bears : Nat → Int32), ∃ (r_t_loadAt : Nat → Int32), w = (wd_LongTrainModel_loads k a_t d_t i_t j_t r_t_tape r_t_s r_t_loadMay r_t_mostLoads r_t_wagons r_t_foremost r_t_bears r_t_loadAt) ∧ Q r i_t r_t_loadMay r_t_mostLoads r_t_wagons r_t_foremost r_t_bears r_t_loadAt) D k A ([.ref a_t] : List Value).toArray s 0 0) (F0 m 29 ls [])) :
    ∀ (x1 : Int32) (H : Heap) (locs : List Loc) (ls : Array Slot), b_LongTrainModel_loads_29 i_t r_t_tape r_t_s r_t_loadMay r_t_mostLoads r_t_wagons r_t_foremost r_t_bears r_t_loadAt Q kx_29 kr_29 x1 → Bd D A s.heap (wd_LongTrainModel_loads k a_t d_t i_t j_t r_t_tape r_t_s r_t_loadMay r_t_mostLoads r_t_wagons r_t_foremost r_t_bears r_t_loadAt) H locs → lv_has ls 6 [(0, .ref a_t), (1, .int x1)] → W p l e { frames := 4, cells := 0, slots := 0, locals := 89 } s m ([.ref a_t] : List Value).toArray below meth c H locs 0 0 (Ei below (fun r w => ∃ (i_t : Nat → Int32), ∃ (r_t_loadMay : Nat → Int32), ∃ (r_t_mostLoads : Nat → Int32), ∃ (r_t_wagons : Nat → Int32), ∃ (r_t_foremost : Nat → Int32), ∃ (r_t_bears : Nat → Int32), ∃ (r_t_loadAt : Nat → Int32), w = (wd_LongTrainModel_loads k a_t d_t i_t j_t r_t_tape r_t_s r_t_loadMay r_t_mostLoads r_t_wagons r_t_foremost r_t_bears r_t_loadAt) ∧ Q r i_t r_t_loadMay r_t_mostLoads r_t_wagons r_t_foremost r_t_bears r_t_loadAt) D k A ([.ref a_t] : List Value).toArray s 0 0) (F0 m 29 ls []) := by
  have hx := F.x
  have hb := F.b
  intro x1 H locs ls hf hB hl
  unfold b_LongTrainModel_loads_29 at hf
  refine lv_iload_n hx hb dX12_loads_29 rfl (lv_at hl 1 rfl) ?_
  refine lv_aload_n hx hb dX12_loads_30 rfl (lv_at hl 0 rfl) ?_
  refine g_get (w := .int (i_t 3)) F hB 0 rfl fl_RX12_18 rfl dX12_loads_31 ?_
  refine lv_icmp_ge (tgt := 57) hx hb dX12_loads_34 (by decide) (fun c_8 => ?_) (fun c_8 => ?_)
  · replace hf := hf.1 c_8
    exact hkx_29  _ _ _ hf hB (lv_sub hl [0] rfl)
  · replace hf := hf.2 c_8
    refine lv_aload_n hx hb dX12_loads_37 rfl (lv_at hl 0 rfl) ?_
    refine lv_aload_n hx hb dX12_loads_38 rfl (lv_at hl 0 rfl) ?_
    refine lv_iload_n hx hb dX12_loads_39 rfl (lv_at hl 1 rfl) ?_
    refine k_vi (wr := [((d_t 6), ai k 1068 r_t_s), ((d_t 34), ai k 8 r_t_loadMay), ((d_t 37), ai k 2304 r_t_mostLoads), ((d_t 22), ai k 20 r_t_wagons), ((d_t 23), ai k 20 r_t_foremost), ((d_t 24), ai k 20 r_t_bears), ((d_t 35), ai k 8 r_t_loadAt)]) (rest := [.ref a_t]) F hA hB (c_LongTrainModel_octet l D k a_t d_t i_t j_t r_t_tape x1 _  hf) ml_RX12_357 mv_yX12_octet [0, 1] [2, 3, 4, 5, 6, 7, 8] rfl rfl (by decide) (by decide) (by decide) 0 rfl rfl rfl hl.1 rfl (Nat.le_of_ble_eq_true rfl) ⟨Nat.le_of_ble_eq_true rfl, Nat.le_of_ble_eq_true rfl⟩ ⟨Nat.le_of_ble_eq_true rfl, Nat.le_of_ble_eq_true rfl⟩ dX12_loads_40 (fun z_4 w1 H locs hq hB => ?_)
    obtain ⟨rfl, hf⟩ := hq
    replace hB : Bd D A s.heap (wd_LongTrainModel_loads k a_t d_t i_t j_t r_t_tape r_t_s r_t_loadMay r_t_mostLoads r_t_wagons r_t_foremost r_t_bears r_t_loadAt) H locs := hB.sub [7, 8, 0, 1, 2, 3, 4, 5, 6] (by decide) rfl
    refine k_vi (wr := [((d_t 1), ab k 940 r_t_tape), ((d_t 34), ai k 8 r_t_loadMay), ((d_t 37), ai k 2304 r_t_mostLoads), ((d_t 22), ai k 20 r_t_wagons), ((d_t 23), ai k 20 r_t_foremost), ((d_t 24), ai k 20 r_t_bears), ((d_t 35), ai k 8 r_t_loadAt)]) (rest := []) F hA hB (c_LongTrainModel_isHalt l D k a_t d_t i_t j_t r_t_s z_4 _  hf) ml_RX12_258 mv_yX12_isHalt [0, 2] [1, 3, 4, 5, 6, 7, 8] rfl rfl (by decide) (by decide) (by decide) 0 rfl rfl rfl hl.1 rfl (Nat.le_of_ble_eq_true rfl) ⟨Nat.le_of_ble_eq_true rfl, Nat.le_of_ble_eq_true rfl⟩ ⟨Nat.le_of_ble_eq_true rfl, Nat.le_of_ble_eq_true rfl⟩ dX12_loads_43 (fun z_5 w1 H locs hq hB => ?_)
    obtain ⟨h_6, rfl, hf⟩ := hq
    replace hB : Bd D A s.heap (wd_LongTrainModel_loads k a_t d_t i_t j_t r_t_tape r_t_s r_t_loadMay r_t_mostLoads r_t_wagons r_t_foremost r_t_bears r_t_loadAt) H locs := hB.sub [7, 0, 8, 1, 2, 3, 4, 5, 6] (by decide) rfl
    refine lv_if_ne (tgt := 51) hx hb dX12_loads_46 (by decide) (fun c_7 => ?_) (fun c_7 => ?_)
    · replace hf := hf.1 c_7
      refine lv_iinc (v := (x1 + 1)) (lv' := [(1, .int (x1 + 1)), (0, .ref a_t)]) (k := 1) hx hb dX12_loads_51 hl rfl rfl (by decide) rfl (fun ls hl => ?_)
      refine lv_goto (tgt := 29) hx hb dX12_loads_54 (by decide) ?_
      exact hkr_29 _ _ _ _ hf hB (lv_sub hl [1, 0] rfl)
    · replace hf := hf.2 c_7
      refine lv_iconst (v := -1) hx hb dX12_loads_49 (by decide) ?_
      exact r_i F hr hlk hB ⟨_, _, _, _, _, _, _, rfl, hf⟩ dX12_loads_50

set_option maxRecDepth 100000 in
set_option maxHeartbeats 4000000 in
theorem lt_LongTrainModel_loads_29 {p : Program} {l : Launch} {e : Env} {s : State} {m : MethodId} {below : List Frame} {meth : Method} {c : Code} {A : Nat → Prop} {D : va_G} {k : Nat → ClassId} {a_t : Nat} {d_t : Nat → Nat} {i_t : Nat → Int32} {j_t : Nat → Int64} {r_t_tape : Nat → Int32} {r_t_s : Nat → Int32} {r_t_loadMay : Nat → Int32} {r_t_mostLoads : Nat → Int32} {r_t_wagons : Nat → Int32} {r_t_foremost : Nat → Int32} {r_t_bears : Nat → Int32} {r_t_loadAt : Nat → Int32}  {Q : Int32 → (Nat → Int32) → (Nat → Int32) → (Nat → Int32) → (Nat → Int32) → (Nat → Int32) → (Nat → Int32) → (Nat → Int32) → Prop}  {kx_29 : Prop} (F : Fx p m c cX12_loads 6 s ([.ref a_t] : List Value).toArray RX12 D k) (hr : meth.sig.returnType = (some .int)) (hlk : meth.locks = false) (hA : ∀ q : Nat, s.heap.size ≤ q → A q) (hkx_29 : ∀ (H : Heap) (locs : List Loc) (ls : Array Slot), kx_29 → Bd D A s.heap (wd_LongTrainModel_loads k a_t d_t i_t j_t r_t_tape r_t_s r_t_loadMay r_t_mostLoads r_t_wagons r_t_foremost r_t_bears r_t_loadAt) H locs → lv_has ls 6 [(0, .ref a_t)] → W p l e { frames := 4, cells := 0, slots := 0, locals := 89 } s m ([.ref a_t] : List Value).toArray below meth c H locs 0 0 (Ei below (fun r w => ∃ (i_t : Nat → Int32), ∃ (r_t_loadMay : Nat → Int32), ∃ (r_t_mostLoads : Nat → Int32), ∃ (r_t_wagons : Nat → Int32), ∃ (r_t_foremost : Nat → Int32), ∃ (r_t_bears : Nat → Int32), ∃ (r_t_loadAt : Nat → Int32), w = (wd_LongTrainModel_loads k a_t d_t i_t j_t r_t_tape r_t_s r_t_loadMay r_t_mostLoads r_t_wagons r_t_foremost r_t_bears r_t_loadAt) ∧ Q r i_t r_t_loadMay r_t_mostLoads r_t_wagons r_t_foremost r_t_bears r_t_loadAt) D k A ([.ref a_t] : List Value).toArray s 0 0) (F0 m 57 ls [])) :
    ∀ n : Nat, ∀ (x1 : Int32) (H : Heap) (locs : List Loc) (ls : Array Slot), lp_LongTrainModel_loads_29 i_t r_t_tape r_t_s r_t_loadMay r_t_mostLoads r_t_wagons r_t_foremost r_t_bears r_t_loadAt Q kx_29 n x1 → Bd D A s.heap (wd_LongTrainModel_loads k a_t d_t i_t j_t r_t_tape r_t_s r_t_loadMay r_t_mostLoads r_t_wagons r_t_foremost r_t_bears r_t_loadAt) H locs → lv_has ls 6 [(0, .ref a_t), (1, .int x1)] → W p l e { frames := 4, cells := 0, slots := 0, locals := 89 } s m ([.ref a_t] : List Value).toArray below meth c H locs 0 0 (Ei below (fun r w => ∃ (i_t : Nat → Int32), ∃ (r_t_loadMay : Nat → Int32), ∃ (r_t_mostLoads : Nat → Int32), ∃ (r_t_wagons : Nat → Int32), ∃ (r_t_foremost : Nat → Int32), ∃ (r_t_bears : Nat → Int32), ∃ (r_t_loadAt : Nat → Int32), w = (wd_LongTrainModel_loads k a_t d_t i_t j_t r_t_tape r_t_s r_t_loadMay r_t_mostLoads r_t_wagons r_t_foremost r_t_bears r_t_loadAt) ∧ Q r i_t r_t_loadMay r_t_mostLoads r_t_wagons r_t_foremost r_t_bears r_t_loadAt) D k A ([.ref a_t] : List Value).toArray s 0 0) (F0 m 29 ls []) := by
  intro n
  induction n with
  | zero => intro x1 H locs ls hf; exact absurd hf (fun h => h)
  | succ n ih => exact bt_LongTrainModel_loads_29 F hr hlk hA hkx_29 ih

set_option maxRecDepth 100000 in
set_option maxHeartbeats 4000000 in
theorem bt_LongTrainModel_loads_59 {p : Program} {l : Launch} {e : Env} {s : State} {m : MethodId} {below : List Frame} {meth : Method} {c : Code} {A : Nat → Prop} {D : va_G} {k : Nat → ClassId} {a_t : Nat} {d_t : Nat → Nat} {j_t : Nat → Int64} {r_t_tape : Nat → Int32} {r_t_s : Nat → Int32} {r_t_mostLoads : Nat → Int32} {r_t_loadAt : Nat → Int32}  {Q : Int32 → (Nat → Int32) → (Nat → Int32) → (Nat → Int32) → (Nat → Int32) → (Nat → Int32) → (Nat → Int32) → (Nat → Int32) → Prop}  {kx_59 : (Nat → Int32) → (Nat → Int32) → (Nat → Int32) → (Nat → Int32) → (Nat → Int32) → Prop} {kr_59 : (Int32) → (Nat → Int32) → (Nat → Int32) → (Nat → Int32) → (Nat → Int32) → (Nat → Int32) → Prop} (F : Fx p m c cX12_loads 6 s ([.ref a_t] : List Value).toArray RX12 D k) (hr : meth.sig.returnType = (some .int)) (hlk : meth.locks = false) (hA : ∀ q : Nat, s.heap.size ≤ q → A q) (hkx_59 : ∀ (i_t : Nat → Int32) (r_t_loadMay : Nat → Int32) (r_t_wagons : Nat → Int32) (r_t_foremost : Nat → Int32) (r_t_bears : Nat → Int32) (H : Heap) (locs : List Loc) (ls : Array Slot), kx_59 i_t r_t_loadMay r_t_wagons r_t_foremost r_t_bears → Bd D A s.heap (wd_LongTrainModel_loads k a_t d_t i_t j_t r_t_tape r_t_s r_t_loadMay r_t_mostLoads r_t_wagons r_t_foremost r_t_bears r_t_loadAt) H locs → lv_has ls 6 [(0, .ref a_t)] → W p l e { frames := 4, cells := 0, slots := 0, locals := 89 } s m ([.ref a_t] : List Value).toArray below meth c H locs 0 0 (Ei below (fun r w => ∃ (i_t : Nat → Int32), ∃ (r_t_loadMay : Nat → Int32), ∃ (r_t_mostLoads : Nat → Int32), ∃ (r_t_wagons : Nat → Int32), ∃ (r_t_foremost : Nat → Int32), ∃ (r_t_bears : Nat → Int32), ∃ (r_t_loadAt : Nat → Int32), w = (wd_LongTrainModel_loads k a_t d_t i_t j_t r_t_tape r_t_s r_t_loadMay r_t_mostLoads r_t_wagons r_t_foremost r_t_bears r_t_loadAt) ∧ Q r i_t r_t_loadMay r_t_mostLoads r_t_wagons r_t_foremost r_t_bears r_t_loadAt) D k A ([.ref a_t] : List Value).toArray s 0 0) (F0 m 100 ls [])) (hkr_59 : ∀ (x1 : Int32) (i_t : Nat → Int32) (r_t_loadMay : Nat → Int32) (r_t_wagons : Nat → Int32) (r_t_foremost : Nat → Int32) (r_t_bears : Nat → Int32) (H : Heap) (locs : List Loc) (ls : Array Slot), kr_59 x1 i_t r_t_loadMay r_t_wagons r_t_foremost r_t_bears → Bd D A s.heap (wd_LongTrainModel_loads k a_t d_t i_t j_t r_t_tape r_t_s r_t_loadMay r_t_mostLoads r_t_wagons r_t_foremost r_t_bears r_t_loadAt) H locs → lv_has ls 6 [(0, .ref a_t), (1, .int x1)] → W p l e { frames := 4, cells := 0, slots := 0, locals := 89 } s m ([.ref a_t] : List Value).toArray below meth c H locs 0 0 (Ei below (fun r w => ∃ (i_t : Nat → Int32), ∃ (r_t_loadMay : Nat → Int32), ∃ (r_t_mostLoads : Nat → Int32), ∃ (r_t_wagons : Nat → Int32), ∃ (r_t_foremost : Nat → Int32), ∃ (r_t_bears : Nat → Int32), ∃ (r_t_loadAt : Nat → Int32), w = (wd_LongTrainModel_loads k a_t d_t i_t j_t r_t_tape r_t_s r_t_loadMay r_t_mostLoads r_t_wagons r_t_foremost r_t_bears r_t_loadAt) ∧ Q r i_t r_t_loadMay r_t_mostLoads r_t_wagons r_t_foremost r_t_bears r_t_loadAt) D k A ([.ref a_t] : List Value).toArray s 0 0) (F0 m 59 ls [])) :
    ∀ (x1 : Int32) (i_t : Nat → Int32) (r_t_loadMay : Nat → Int32) (r_t_wagons : Nat → Int32) (r_t_foremost : Nat → Int32) (r_t_bears : Nat → Int32) (H : Heap) (locs : List Loc) (ls : Array Slot), b_LongTrainModel_loads_59 r_t_tape r_t_s kx_59 kr_59 x1 i_t r_t_loadMay r_t_wagons r_t_foremost r_t_bears → Bd D A s.heap (wd_LongTrainModel_loads k a_t d_t i_t j_t r_t_tape r_t_s r_t_loadMay r_t_mostLoads r_t_wagons r_t_foremost r_t_bears r_t_loadAt) H locs → lv_has ls 6 [(0, .ref a_t), (1, .int x1)] → W p l e { frames := 4, cells := 0, slots := 0, locals := 89 } s m ([.ref a_t] : List Value).toArray below meth c H locs 0 0 (Ei below (fun r w => ∃ (i_t : Nat → Int32), ∃ (r_t_loadMay : Nat → Int32), ∃ (r_t_mostLoads : Nat → Int32), ∃ (r_t_wagons : Nat → Int32), ∃ (r_t_foremost : Nat → Int32), ∃ (r_t_bears : Nat → Int32), ∃ (r_t_loadAt : Nat → Int32), w = (wd_LongTrainModel_loads k a_t d_t i_t j_t r_t_tape r_t_s r_t_loadMay r_t_mostLoads r_t_wagons r_t_foremost r_t_bears r_t_loadAt) ∧ Q r i_t r_t_loadMay r_t_mostLoads r_t_wagons r_t_foremost r_t_bears r_t_loadAt) D k A ([.ref a_t] : List Value).toArray s 0 0) (F0 m 59 ls []) := by
  have hx := F.x
  have hb := F.b
  intro x1 i_t r_t_loadMay r_t_wagons r_t_foremost r_t_bears H locs ls hf hB hl
  unfold b_LongTrainModel_loads_59 at hf
  refine lv_iload_n hx hb dX12_loads_59 rfl (lv_at hl 1 rfl) ?_
  refine lv_aload_n hx hb dX12_loads_60 rfl (lv_at hl 0 rfl) ?_
  refine g_get (w := .int (i_t 3)) F hB 0 rfl fl_RX12_18 rfl dX12_loads_61 ?_
  refine lv_icmp_ge (tgt := 100) hx hb dX12_loads_64 (by decide) (fun c_17 => ?_) (fun c_17 => ?_)
  · replace hf := hf.1 c_17
    exact hkx_59 _ _ _ _ _ _ _ _ hf hB (lv_sub hl [0] rfl)
  · replace hf := hf.2 c_17
    refine lv_aload_n hx hb dX12_loads_67 rfl (lv_at hl 0 rfl) ?_
    refine g_get (w := .ref (d_t 34)) F hB 0 rfl fl_RX12_74 rfl dX12_loads_68 ?_
    refine lv_iload_n hx hb dX12_loads_71 rfl (lv_at hl 1 rfl) ?_
    refine lv_aload_n hx hb dX12_loads_72 rfl (lv_at hl 0 rfl) ?_
    refine lv_aload_n hx hb dX12_loads_73 rfl (lv_at hl 0 rfl) ?_
    refine lv_iload_n hx hb dX12_loads_74 rfl (lv_at hl 1 rfl) ?_
    refine k_vi (wr := [((d_t 6), ai k 1068 r_t_s), ((d_t 34), ai k 8 r_t_loadMay), ((d_t 37), ai k 2304 r_t_mostLoads), ((d_t 22), ai k 20 r_t_wagons), ((d_t 23), ai k 20 r_t_foremost), ((d_t 24), ai k 20 r_t_bears), ((d_t 35), ai k 8 r_t_loadAt)]) (rest := [.ref a_t, .int x1, .ref (d_t 34)]) F hA hB (c_LongTrainModel_octet l D k a_t d_t i_t j_t r_t_tape x1 _  hf) ml_RX12_357 mv_yX12_octet [0, 1] [2, 3, 4, 5, 6, 7, 8] rfl rfl (by decide) (by decide) (by decide) 0 rfl rfl rfl hl.1 rfl (Nat.le_of_ble_eq_true rfl) ⟨Nat.le_of_ble_eq_true rfl, Nat.le_of_ble_eq_true rfl⟩ ⟨Nat.le_of_ble_eq_true rfl, Nat.le_of_ble_eq_true rfl⟩ dX12_loads_75 (fun z_9 w1 H locs hq hB => ?_)
    obtain ⟨rfl, hf⟩ := hq
    replace hB : Bd D A s.heap (wd_LongTrainModel_loads k a_t d_t i_t j_t r_t_tape r_t_s r_t_loadMay r_t_mostLoads r_t_wagons r_t_foremost r_t_bears r_t_loadAt) H locs := hB.sub [7, 8, 0, 1, 2, 3, 4, 5, 6] (by decide) rfl
    refine k_vi (wr := [((d_t 1), ab k 940 r_t_tape), ((d_t 34), ai k 8 r_t_loadMay), ((d_t 37), ai k 2304 r_t_mostLoads), ((d_t 35), ai k 8 r_t_loadAt)]) (rest := [.int x1, .ref (d_t 34)]) F hA hB (c_LongTrainModel_platformOf l D k a_t d_t i_t j_t r_t_s r_t_wagons r_t_foremost r_t_bears z_9 _  hf) ml_RX12_345 mv_yX12_platformOf [0, 2, 5, 6, 7] [1, 3, 4, 8] rfl rfl (by decide) (by decide) (by decide) 0 rfl rfl rfl hl.1 rfl (Nat.le_of_ble_eq_true rfl) ⟨Nat.le_of_ble_eq_true rfl, Nat.le_of_ble_eq_true rfl⟩ ⟨Nat.le_of_ble_eq_true rfl, Nat.le_of_ble_eq_true rfl⟩ dX12_loads_78 (fun z_14 w1 H locs hq hB => ?_)
    obtain ⟨i_t_10, r_t_wagons_11, r_t_foremost_12, r_t_bears_13, rfl, hf⟩ := hq
    replace hB : Bd D A s.heap (wd_LongTrainModel_loads k a_t d_t i_t_10 j_t r_t_tape r_t_s r_t_loadMay r_t_mostLoads r_t_wagons_11 r_t_foremost_12 r_t_bears_13 r_t_loadAt) H locs := hB.sub [4, 0, 5, 1, 2, 6, 7, 8, 3] (by decide) rfl
    refine lv_iconst (v := 1) hx hb dX12_loads_81 (by decide) ?_
    refine lv_aload_n hx hb dX12_loads_82 rfl (lv_at hl 0 rfl) ?_
    refine g_get (w := .ref (d_t 6)) F hB 0 rfl fl_RX12_33 rfl dX12_loads_83 ?_
    refine lv_bipush (v := 10) hx hb dX12_loads_86 (by decide) ?_
    refine g_iald F hB 2 rfl (vp_in_iff.mpr (by decide +kernel)) dX12_loads_88 ?_
    refine W.eq (g2 := F0 m 89 ls [.int (r_t_s 10), .int (1 : Int32), .int z_14, .int x1, .ref (d_t 34)]) rfl ?_
    refine lv_ishl hx hb dX12_loads_89 ?_
    refine lv_iconst (v := 1) hx hb dX12_loads_90 (by decide) ?_
    refine lv_isub hx hb dX12_loads_91 ?_
    refine lv_iand hx hb dX12_loads_92 ?_
    obtain ⟨h_16, hf⟩ := hf
    refine g_iast F hB 3 rfl h_16 (wd_LongTrainModel_loads k a_t d_t i_t_10 j_t r_t_tape r_t_s (upd r_t_loadMay (x1).toNatClampNeg (z_14 &&& (((1 : Int32) <<< ((r_t_s 10) &&& 31)) - (1 : Int32)))) r_t_mostLoads r_t_wagons_11 r_t_foremost_12 r_t_bears_13 r_t_loadAt) rfl dX12_loads_93 (fun H locs hB => ?_)
    refine lv_iinc (v := (x1 + 1)) (lv' := [(1, .int (x1 + 1)), (0, .ref a_t)]) (k := 1) hx hb dX12_loads_94 hl rfl rfl (by decide) rfl (fun ls hl => ?_)
    refine lv_goto (tgt := 59) hx hb dX12_loads_97 (by decide) ?_
    exact hkr_59 _ _ _ _ _ _ _ _ _ hf hB (lv_sub hl [1, 0] rfl)

set_option maxRecDepth 100000 in
set_option maxHeartbeats 4000000 in
theorem lt_LongTrainModel_loads_59 {p : Program} {l : Launch} {e : Env} {s : State} {m : MethodId} {below : List Frame} {meth : Method} {c : Code} {A : Nat → Prop} {D : va_G} {k : Nat → ClassId} {a_t : Nat} {d_t : Nat → Nat} {j_t : Nat → Int64} {r_t_tape : Nat → Int32} {r_t_s : Nat → Int32} {r_t_mostLoads : Nat → Int32} {r_t_loadAt : Nat → Int32}  {Q : Int32 → (Nat → Int32) → (Nat → Int32) → (Nat → Int32) → (Nat → Int32) → (Nat → Int32) → (Nat → Int32) → (Nat → Int32) → Prop}  {kx_59 : (Nat → Int32) → (Nat → Int32) → (Nat → Int32) → (Nat → Int32) → (Nat → Int32) → Prop} (F : Fx p m c cX12_loads 6 s ([.ref a_t] : List Value).toArray RX12 D k) (hr : meth.sig.returnType = (some .int)) (hlk : meth.locks = false) (hA : ∀ q : Nat, s.heap.size ≤ q → A q) (hkx_59 : ∀ (i_t : Nat → Int32) (r_t_loadMay : Nat → Int32) (r_t_wagons : Nat → Int32) (r_t_foremost : Nat → Int32) (r_t_bears : Nat → Int32) (H : Heap) (locs : List Loc) (ls : Array Slot), kx_59 i_t r_t_loadMay r_t_wagons r_t_foremost r_t_bears → Bd D A s.heap (wd_LongTrainModel_loads k a_t d_t i_t j_t r_t_tape r_t_s r_t_loadMay r_t_mostLoads r_t_wagons r_t_foremost r_t_bears r_t_loadAt) H locs → lv_has ls 6 [(0, .ref a_t)] → W p l e { frames := 4, cells := 0, slots := 0, locals := 89 } s m ([.ref a_t] : List Value).toArray below meth c H locs 0 0 (Ei below (fun r w => ∃ (i_t : Nat → Int32), ∃ (r_t_loadMay : Nat → Int32), ∃ (r_t_mostLoads : Nat → Int32), ∃ (r_t_wagons : Nat → Int32), ∃ (r_t_foremost : Nat → Int32), ∃ (r_t_bears : Nat → Int32), ∃ (r_t_loadAt : Nat → Int32), w = (wd_LongTrainModel_loads k a_t d_t i_t j_t r_t_tape r_t_s r_t_loadMay r_t_mostLoads r_t_wagons r_t_foremost r_t_bears r_t_loadAt) ∧ Q r i_t r_t_loadMay r_t_mostLoads r_t_wagons r_t_foremost r_t_bears r_t_loadAt) D k A ([.ref a_t] : List Value).toArray s 0 0) (F0 m 100 ls [])) :
    ∀ n : Nat, ∀ (x1 : Int32) (i_t : Nat → Int32) (r_t_loadMay : Nat → Int32) (r_t_wagons : Nat → Int32) (r_t_foremost : Nat → Int32) (r_t_bears : Nat → Int32) (H : Heap) (locs : List Loc) (ls : Array Slot), lp_LongTrainModel_loads_59 r_t_tape r_t_s kx_59 n x1 i_t r_t_loadMay r_t_wagons r_t_foremost r_t_bears → Bd D A s.heap (wd_LongTrainModel_loads k a_t d_t i_t j_t r_t_tape r_t_s r_t_loadMay r_t_mostLoads r_t_wagons r_t_foremost r_t_bears r_t_loadAt) H locs → lv_has ls 6 [(0, .ref a_t), (1, .int x1)] → W p l e { frames := 4, cells := 0, slots := 0, locals := 89 } s m ([.ref a_t] : List Value).toArray below meth c H locs 0 0 (Ei below (fun r w => ∃ (i_t : Nat → Int32), ∃ (r_t_loadMay : Nat → Int32), ∃ (r_t_mostLoads : Nat → Int32), ∃ (r_t_wagons : Nat → Int32), ∃ (r_t_foremost : Nat → Int32), ∃ (r_t_bears : Nat → Int32), ∃ (r_t_loadAt : Nat → Int32), w = (wd_LongTrainModel_loads k a_t d_t i_t j_t r_t_tape r_t_s r_t_loadMay r_t_mostLoads r_t_wagons r_t_foremost r_t_bears r_t_loadAt) ∧ Q r i_t r_t_loadMay r_t_mostLoads r_t_wagons r_t_foremost r_t_bears r_t_loadAt) D k A ([.ref a_t] : List Value).toArray s 0 0) (F0 m 59 ls []) := by
  intro n
  induction n with
  | zero => intro x1 i_t r_t_loadMay r_t_wagons r_t_foremost r_t_bears H locs ls hf; exact absurd hf (fun h => h)
  | succ n ih => exact bt_LongTrainModel_loads_59 F hr hlk hA hkx_59 ih

set_option maxRecDepth 100000 in
set_option maxHeartbeats 4000000 in
theorem bt_LongTrainModel_loads_102 {p : Program} {l : Launch} {e : Env} {s : State} {m : MethodId} {below : List Frame} {meth : Method} {c : Code} {A : Nat → Prop} {D : va_G} {k : Nat → ClassId} {a_t : Nat} {d_t : Nat → Nat} {i_t : Nat → Int32} {j_t : Nat → Int64} {r_t_tape : Nat → Int32} {r_t_s : Nat → Int32} {r_t_loadMay : Nat → Int32} {r_t_wagons : Nat → Int32} {r_t_foremost : Nat → Int32} {r_t_bears : Nat → Int32} {r_t_loadAt : Nat → Int32}  {Q : Int32 → (Nat → Int32) → (Nat → Int32) → (Nat → Int32) → (Nat → Int32) → (Nat → Int32) → (Nat → Int32) → (Nat → Int32) → Prop}  {kx_102 : (Nat → Int32) → Prop} {kr_102 : (Int32) → (Nat → Int32) → Prop} (F : Fx p m c cX12_loads 6 s ([.ref a_t] : List Value).toArray RX12 D k) (hr : meth.sig.returnType = (some .int)) (hlk : meth.locks = false) (hA : ∀ q : Nat, s.heap.size ≤ q → A q) (hkx_102 : ∀ (r_t_mostLoads : Nat → Int32) (H : Heap) (locs : List Loc) (ls : Array Slot), kx_102 r_t_mostLoads → Bd D A s.heap (wd_LongTrainModel_loads k a_t d_t i_t j_t r_t_tape r_t_s r_t_loadMay r_t_mostLoads r_t_wagons r_t_foremost r_t_bears r_t_loadAt) H locs → lv_has ls 6 [(0, .ref a_t)] → W p l e { frames := 4, cells := 0, slots := 0, locals := 89 } s m ([.ref a_t] : List Value).toArray below meth c H locs 0 0 (Ei below (fun r w => ∃ (i_t : Nat → Int32), ∃ (r_t_loadMay : Nat → Int32), ∃ (r_t_mostLoads : Nat → Int32), ∃ (r_t_wagons : Nat → Int32), ∃ (r_t_foremost : Nat → Int32), ∃ (r_t_bears : Nat → Int32), ∃ (r_t_loadAt : Nat → Int32), w = (wd_LongTrainModel_loads k a_t d_t i_t j_t r_t_tape r_t_s r_t_loadMay r_t_mostLoads r_t_wagons r_t_foremost r_t_bears r_t_loadAt) ∧ Q r i_t r_t_loadMay r_t_mostLoads r_t_wagons r_t_foremost r_t_bears r_t_loadAt) D k A ([.ref a_t] : List Value).toArray s 0 0) (F0 m 131 ls [])) (hkr_102 : ∀ (x1 : Int32) (r_t_mostLoads : Nat → Int32) (H : Heap) (locs : List Loc) (ls : Array Slot), kr_102 x1 r_t_mostLoads → Bd D A s.heap (wd_LongTrainModel_loads k a_t d_t i_t j_t r_t_tape r_t_s r_t_loadMay r_t_mostLoads r_t_wagons r_t_foremost r_t_bears r_t_loadAt) H locs → lv_has ls 6 [(0, .ref a_t), (1, .int x1)] → W p l e { frames := 4, cells := 0, slots := 0, locals := 89 } s m ([.ref a_t] : List Value).toArray below meth c H locs 0 0 (Ei below (fun r w => ∃ (i_t : Nat → Int32), ∃ (r_t_loadMay : Nat → Int32), ∃ (r_t_mostLoads : Nat → Int32), ∃ (r_t_wagons : Nat → Int32), ∃ (r_t_foremost : Nat → Int32), ∃ (r_t_bears : Nat → Int32), ∃ (r_t_loadAt : Nat → Int32), w = (wd_LongTrainModel_loads k a_t d_t i_t j_t r_t_tape r_t_s r_t_loadMay r_t_mostLoads r_t_wagons r_t_foremost r_t_bears r_t_loadAt) ∧ Q r i_t r_t_loadMay r_t_mostLoads r_t_wagons r_t_foremost r_t_bears r_t_loadAt) D k A ([.ref a_t] : List Value).toArray s 0 0) (F0 m 102 ls [])) :
    ∀ (x1 : Int32) (r_t_mostLoads : Nat → Int32) (H : Heap) (locs : List Loc) (ls : Array Slot), b_LongTrainModel_loads_102 i_t kx_102 kr_102 x1 r_t_mostLoads → Bd D A s.heap (wd_LongTrainModel_loads k a_t d_t i_t j_t r_t_tape r_t_s r_t_loadMay r_t_mostLoads r_t_wagons r_t_foremost r_t_bears r_t_loadAt) H locs → lv_has ls 6 [(0, .ref a_t), (1, .int x1)] → W p l e { frames := 4, cells := 0, slots := 0, locals := 89 } s m ([.ref a_t] : List Value).toArray below meth c H locs 0 0 (Ei below (fun r w => ∃ (i_t : Nat → Int32), ∃ (r_t_loadMay : Nat → Int32), ∃ (r_t_mostLoads : Nat → Int32), ∃ (r_t_wagons : Nat → Int32), ∃ (r_t_foremost : Nat → Int32), ∃ (r_t_bears : Nat → Int32), ∃ (r_t_loadAt : Nat → Int32), w = (wd_LongTrainModel_loads k a_t d_t i_t j_t r_t_tape r_t_s r_t_loadMay r_t_mostLoads r_t_wagons r_t_foremost r_t_bears r_t_loadAt) ∧ Q r i_t r_t_loadMay r_t_mostLoads r_t_wagons r_t_foremost r_t_bears r_t_loadAt) D k A ([.ref a_t] : List Value).toArray s 0 0) (F0 m 102 ls []) := by
  have hx := F.x
  have hb := F.b
  intro x1 r_t_mostLoads H locs ls hf hB hl
  unfold b_LongTrainModel_loads_102 at hf
  refine lv_iload_n hx hb dX12_loads_102 rfl (lv_at hl 1 rfl) ?_
  refine lv_sipush (v := 256) hx hb dX12_loads_103 (by decide) ?_
  refine lv_icmp_ge (tgt := 131) hx hb dX12_loads_106 (by decide) (fun c_24 => ?_) (fun c_24 => ?_)
  · replace hf := hf.1 c_24
    exact hkx_102 _ _ _ _ hf hB (lv_sub hl [0] rfl)
  · replace hf := hf.2 c_24
    refine lv_aload_n hx hb dX12_loads_109 rfl (lv_at hl 0 rfl) ?_
    refine g_get (w := .ref (d_t 37)) F hB 0 rfl fl_RX12_83 rfl dX12_loads_110 ?_
    refine lv_sipush (v := 256) hx hb dX12_loads_113 (by decide) ?_
    refine lv_aload_n hx hb dX12_loads_116 rfl (lv_at hl 0 rfl) ?_
    refine g_get (w := .int (i_t 3)) F hB 0 rfl fl_RX12_18 rfl dX12_loads_117 ?_
    refine lv_imul hx hb dX12_loads_120 ?_
    refine lv_iload_n hx hb dX12_loads_121 rfl (lv_at hl 1 rfl) ?_
    refine lv_iadd hx hb dX12_loads_122 ?_
    refine lv_iconst (v := 0) hx hb dX12_loads_123 (by decide) ?_
    obtain ⟨h_23, hf⟩ := hf
    refine g_iast F hB 4 rfl h_23 (wd_LongTrainModel_loads k a_t d_t i_t j_t r_t_tape r_t_s r_t_loadMay (upd r_t_mostLoads ((((256 : Int32) * (i_t 3)) + x1)).toNatClampNeg (0 : Int32)) r_t_wagons r_t_foremost r_t_bears r_t_loadAt) rfl dX12_loads_124 (fun H locs hB => ?_)
    refine lv_iinc (v := (x1 + 1)) (lv' := [(1, .int (x1 + 1)), (0, .ref a_t)]) (k := 1) hx hb dX12_loads_125 hl rfl rfl (by decide) rfl (fun ls hl => ?_)
    refine lv_goto (tgt := 102) hx hb dX12_loads_128 (by decide) ?_
    exact hkr_102 _ _ _ _ _ hf hB (lv_sub hl [1, 0] rfl)

set_option maxRecDepth 100000 in
set_option maxHeartbeats 4000000 in
theorem lt_LongTrainModel_loads_102 {p : Program} {l : Launch} {e : Env} {s : State} {m : MethodId} {below : List Frame} {meth : Method} {c : Code} {A : Nat → Prop} {D : va_G} {k : Nat → ClassId} {a_t : Nat} {d_t : Nat → Nat} {i_t : Nat → Int32} {j_t : Nat → Int64} {r_t_tape : Nat → Int32} {r_t_s : Nat → Int32} {r_t_loadMay : Nat → Int32} {r_t_wagons : Nat → Int32} {r_t_foremost : Nat → Int32} {r_t_bears : Nat → Int32} {r_t_loadAt : Nat → Int32}  {Q : Int32 → (Nat → Int32) → (Nat → Int32) → (Nat → Int32) → (Nat → Int32) → (Nat → Int32) → (Nat → Int32) → (Nat → Int32) → Prop}  {kx_102 : (Nat → Int32) → Prop} (F : Fx p m c cX12_loads 6 s ([.ref a_t] : List Value).toArray RX12 D k) (hr : meth.sig.returnType = (some .int)) (hlk : meth.locks = false) (hA : ∀ q : Nat, s.heap.size ≤ q → A q) (hkx_102 : ∀ (r_t_mostLoads : Nat → Int32) (H : Heap) (locs : List Loc) (ls : Array Slot), kx_102 r_t_mostLoads → Bd D A s.heap (wd_LongTrainModel_loads k a_t d_t i_t j_t r_t_tape r_t_s r_t_loadMay r_t_mostLoads r_t_wagons r_t_foremost r_t_bears r_t_loadAt) H locs → lv_has ls 6 [(0, .ref a_t)] → W p l e { frames := 4, cells := 0, slots := 0, locals := 89 } s m ([.ref a_t] : List Value).toArray below meth c H locs 0 0 (Ei below (fun r w => ∃ (i_t : Nat → Int32), ∃ (r_t_loadMay : Nat → Int32), ∃ (r_t_mostLoads : Nat → Int32), ∃ (r_t_wagons : Nat → Int32), ∃ (r_t_foremost : Nat → Int32), ∃ (r_t_bears : Nat → Int32), ∃ (r_t_loadAt : Nat → Int32), w = (wd_LongTrainModel_loads k a_t d_t i_t j_t r_t_tape r_t_s r_t_loadMay r_t_mostLoads r_t_wagons r_t_foremost r_t_bears r_t_loadAt) ∧ Q r i_t r_t_loadMay r_t_mostLoads r_t_wagons r_t_foremost r_t_bears r_t_loadAt) D k A ([.ref a_t] : List Value).toArray s 0 0) (F0 m 131 ls [])) :
    ∀ n : Nat, ∀ (x1 : Int32) (r_t_mostLoads : Nat → Int32) (H : Heap) (locs : List Loc) (ls : Array Slot), lp_LongTrainModel_loads_102 i_t kx_102 n x1 r_t_mostLoads → Bd D A s.heap (wd_LongTrainModel_loads k a_t d_t i_t j_t r_t_tape r_t_s r_t_loadMay r_t_mostLoads r_t_wagons r_t_foremost r_t_bears r_t_loadAt) H locs → lv_has ls 6 [(0, .ref a_t), (1, .int x1)] → W p l e { frames := 4, cells := 0, slots := 0, locals := 89 } s m ([.ref a_t] : List Value).toArray below meth c H locs 0 0 (Ei below (fun r w => ∃ (i_t : Nat → Int32), ∃ (r_t_loadMay : Nat → Int32), ∃ (r_t_mostLoads : Nat → Int32), ∃ (r_t_wagons : Nat → Int32), ∃ (r_t_foremost : Nat → Int32), ∃ (r_t_bears : Nat → Int32), ∃ (r_t_loadAt : Nat → Int32), w = (wd_LongTrainModel_loads k a_t d_t i_t j_t r_t_tape r_t_s r_t_loadMay r_t_mostLoads r_t_wagons r_t_foremost r_t_bears r_t_loadAt) ∧ Q r i_t r_t_loadMay r_t_mostLoads r_t_wagons r_t_foremost r_t_bears r_t_loadAt) D k A ([.ref a_t] : List Value).toArray s 0 0) (F0 m 102 ls []) := by
  intro n
  induction n with
  | zero => intro x1 r_t_mostLoads H locs ls hf; exact absurd hf (fun h => h)
  | succ n ih => exact bt_LongTrainModel_loads_102 F hr hlk hA hkx_102 ih

set_option maxRecDepth 100000 in
set_option maxHeartbeats 4000000 in
theorem bt_LongTrainModel_loads_169 {p : Program} {l : Launch} {e : Env} {s : State} {m : MethodId} {below : List Frame} {meth : Method} {c : Code} {A : Nat → Prop} {D : va_G} {k : Nat → ClassId} {a_t : Nat} {d_t : Nat → Nat} {i_t : Nat → Int32} {j_t : Nat → Int64} {r_t_tape : Nat → Int32} {r_t_s : Nat → Int32} {r_t_loadMay : Nat → Int32} {r_t_mostLoads : Nat → Int32} {r_t_wagons : Nat → Int32} {r_t_foremost : Nat → Int32} {r_t_bears : Nat → Int32} {r_t_loadAt : Nat → Int32}  {Q : Int32 → (Nat → Int32) → (Nat → Int32) → (Nat → Int32) → (Nat → Int32) → (Nat → Int32) → (Nat → Int32) → (Nat → Int32) → Prop}  {x1 : Int32} {x2 : Int32} {kx_169 : (Int32) → Prop} {kr_169 : (Int32) → (Int32) → Prop} (F : Fx p m c cX12_loads 6 s ([.ref a_t] : List Value).toArray RX12 D k) (hr : meth.sig.returnType = (some .int)) (hlk : meth.locks = false) (hA : ∀ q : Nat, s.heap.size ≤ q → A q) (hkx_169 : ∀ (x3 : Int32) (H : Heap) (locs : List Loc) (ls : Array Slot), kx_169 x3 → Bd D A s.heap (wd_LongTrainModel_loads k a_t d_t i_t j_t r_t_tape r_t_s r_t_loadMay r_t_mostLoads r_t_wagons r_t_foremost r_t_bears r_t_loadAt) H locs → lv_has ls 6 [(0, .ref a_t), (1, .int x1), (2, .int x2), (3, .int x3)] → W p l e { frames := 4, cells := 0, slots := 0, locals := 89 } s m ([.ref a_t] : List Value).toArray below meth c H locs 0 0 (Ei below (fun r w => ∃ (i_t : Nat → Int32), ∃ (r_t_loadMay : Nat → Int32), ∃ (r_t_mostLoads : Nat → Int32), ∃ (r_t_wagons : Nat → Int32), ∃ (r_t_foremost : Nat → Int32), ∃ (r_t_bears : Nat → Int32), ∃ (r_t_loadAt : Nat → Int32), w = (wd_LongTrainModel_loads k a_t d_t i_t j_t r_t_tape r_t_s r_t_loadMay r_t_mostLoads r_t_wagons r_t_foremost r_t_bears r_t_loadAt) ∧ Q r i_t r_t_loadMay r_t_mostLoads r_t_wagons r_t_foremost r_t_bears r_t_loadAt) D k A ([.ref a_t] : List Value).toArray s 0 0) (F0 m 244 ls [])) (hkr_169 : ∀ (x3 : Int32) (x4 : Int32) (H : Heap) (locs : List Loc) (ls : Array Slot), kr_169 x3 x4 → Bd D A s.heap (wd_LongTrainModel_loads k a_t d_t i_t j_t r_t_tape r_t_s r_t_loadMay r_t_mostLoads r_t_wagons r_t_foremost r_t_bears r_t_loadAt) H locs → lv_has ls 6 [(0, .ref a_t), (1, .int x1), (2, .int x2), (3, .int x3), (4, .int x4)] → W p l e { frames := 4, cells := 0, slots := 0, locals := 89 } s m ([.ref a_t] : List Value).toArray below meth c H locs 0 0 (Ei below (fun r w => ∃ (i_t : Nat → Int32), ∃ (r_t_loadMay : Nat → Int32), ∃ (r_t_mostLoads : Nat → Int32), ∃ (r_t_wagons : Nat → Int32), ∃ (r_t_foremost : Nat → Int32), ∃ (r_t_bears : Nat → Int32), ∃ (r_t_loadAt : Nat → Int32), w = (wd_LongTrainModel_loads k a_t d_t i_t j_t r_t_tape r_t_s r_t_loadMay r_t_mostLoads r_t_wagons r_t_foremost r_t_bears r_t_loadAt) ∧ Q r i_t r_t_loadMay r_t_mostLoads r_t_wagons r_t_foremost r_t_bears r_t_loadAt) D k A ([.ref a_t] : List Value).toArray s 0 0) (F0 m 169 ls [])) :
    ∀ (x3 : Int32) (x4 : Int32) (H : Heap) (locs : List Loc) (ls : Array Slot), b_LongTrainModel_loads_169 r_t_loadMay r_t_mostLoads x1 x2 kx_169 kr_169 x3 x4 → Bd D A s.heap (wd_LongTrainModel_loads k a_t d_t i_t j_t r_t_tape r_t_s r_t_loadMay r_t_mostLoads r_t_wagons r_t_foremost r_t_bears r_t_loadAt) H locs → lv_has ls 6 [(0, .ref a_t), (1, .int x1), (2, .int x2), (3, .int x3), (4, .int x4)] → W p l e { frames := 4, cells := 0, slots := 0, locals := 89 } s m ([.ref a_t] : List Value).toArray below meth c H locs 0 0 (Ei below (fun r w => ∃ (i_t : Nat → Int32), ∃ (r_t_loadMay : Nat → Int32), ∃ (r_t_mostLoads : Nat → Int32), ∃ (r_t_wagons : Nat → Int32), ∃ (r_t_foremost : Nat → Int32), ∃ (r_t_bears : Nat → Int32), ∃ (r_t_loadAt : Nat → Int32), w = (wd_LongTrainModel_loads k a_t d_t i_t j_t r_t_tape r_t_s r_t_loadMay r_t_mostLoads r_t_wagons r_t_foremost r_t_bears r_t_loadAt) ∧ Q r i_t r_t_loadMay r_t_mostLoads r_t_wagons r_t_foremost r_t_bears r_t_loadAt) D k A ([.ref a_t] : List Value).toArray s 0 0) (F0 m 169 ls []) := by
  have hx := F.x
  have hb := F.b
  intro x3 x4 H locs ls hf hB hl
  unfold b_LongTrainModel_loads_169 at hf
  refine lv_iload hx hb dX12_loads_169 (lv_at hl 4 rfl) ?_
  refine lv_bipush (v := 8) hx hb dX12_loads_171 (by decide) ?_
  refine lv_icmp_ge (tgt := 244) hx hb dX12_loads_173 (by decide) (fun c_36 => ?_) (fun c_36 => ?_)
  · replace hf := hf.1 c_36
    exact hkx_169 _ _ _ _ hf hB (lv_sub hl [0, 1, 2, 3] rfl)
  · replace hf := hf.2 c_36
    refine lv_aload_n hx hb dX12_loads_176 rfl (lv_at hl 0 rfl) ?_
    refine g_get (w := .ref (d_t 34)) F hB 0 rfl fl_RX12_74 rfl dX12_loads_177 ?_
    refine lv_iload_n hx hb dX12_loads_180 rfl (lv_at hl 1 rfl) ?_
    obtain ⟨h_27, hf⟩ := hf
    refine g_iald F hB 3 rfl h_27 dX12_loads_181 ?_
    refine lv_iload hx hb dX12_loads_182 (lv_at hl 4 rfl) ?_
    refine k_si (wr := [(a_t, ob 12 (rfd d_t) i_t j_t), ((d_t 1), ab k 940 r_t_tape), ((d_t 6), ai k 1068 r_t_s), ((d_t 34), ai k 8 r_t_loadMay), ((d_t 37), ai k 2304 r_t_mostLoads), ((d_t 22), ai k 20 r_t_wagons), ((d_t 23), ai k 20 r_t_foremost), ((d_t 24), ai k 20 r_t_bears), ((d_t 35), ai k 8 r_t_loadAt)]) (rest := []) F hA hB (c_LongTrainModel_has l D k (r_t_loadMay (x1).toNatClampNeg) x4 _  hf) ml_RX12_229 ms_yX12_has [] [0, 1, 2, 3, 4, 5, 6, 7, 8] rfl rfl (by decide) (by decide) (by decide) rfl hl.1 rfl (Nat.le_of_ble_eq_true rfl) ⟨Nat.le_of_ble_eq_true rfl, Nat.le_of_ble_eq_true rfl⟩ ⟨Nat.le_of_ble_eq_true rfl, Nat.le_of_ble_eq_true rfl⟩ dX12_loads_184 (fun z_28 w1 H locs hq hB => ?_)
    obtain ⟨h_29, rfl, hf⟩ := hq
    replace hB : Bd D A s.heap (wd_LongTrainModel_loads k a_t d_t i_t j_t r_t_tape r_t_s r_t_loadMay r_t_mostLoads r_t_wagons r_t_foremost r_t_bears r_t_loadAt) H locs := hB.sub [0, 1, 2, 3, 4, 5, 6, 7, 8] (by decide) rfl
    refine lv_if_eq (tgt := 238) hx hb dX12_loads_187 (by decide) (fun c_35 => ?_) (fun c_35 => ?_)
    · replace hf := hf.1 c_35
      refine lv_iinc (v := (x4 + 1)) (lv' := [(4, .int (x4 + 1)), (0, .ref a_t), (1, .int x1), (2, .int x2), (3, .int x3)]) (k := 4) hx hb dX12_loads_238 hl rfl rfl (by decide) rfl (fun ls hl => ?_)
      refine lv_goto (tgt := 169) hx hb dX12_loads_241 (by decide) ?_
      exact hkr_169 _ _ _ _ _ hf hB (lv_sub hl [1, 2, 3, 4, 0] rfl)
    · replace hf := hf.2 c_35
      refine lv_iload_n hx hb dX12_loads_190 rfl (lv_at hl 2 rfl) ?_
      refine lv_iload hx hb dX12_loads_191 (lv_at hl 4 rfl) ?_
      refine k_si (wr := [(a_t, ob 12 (rfd d_t) i_t j_t), ((d_t 1), ab k 940 r_t_tape), ((d_t 6), ai k 1068 r_t_s), ((d_t 34), ai k 8 r_t_loadMay), ((d_t 37), ai k 2304 r_t_mostLoads), ((d_t 22), ai k 20 r_t_wagons), ((d_t 23), ai k 20 r_t_foremost), ((d_t 24), ai k 20 r_t_bears), ((d_t 35), ai k 8 r_t_loadAt)]) (rest := []) F hA hB (c_LongTrainModel_has l D k x2 x4 _  hf) ml_RX12_229 ms_yX12_has [] [0, 1, 2, 3, 4, 5, 6, 7, 8] rfl rfl (by decide) (by decide) (by decide) rfl hl.1 rfl (Nat.le_of_ble_eq_true rfl) ⟨Nat.le_of_ble_eq_true rfl, Nat.le_of_ble_eq_true rfl⟩ ⟨Nat.le_of_ble_eq_true rfl, Nat.le_of_ble_eq_true rfl⟩ dX12_loads_193 (fun z_30 w1 H locs hq hB => ?_)
      obtain ⟨h_31, rfl, hf⟩ := hq
      replace hB : Bd D A s.heap (wd_LongTrainModel_loads k a_t d_t i_t j_t r_t_tape r_t_s r_t_loadMay r_t_mostLoads r_t_wagons r_t_foremost r_t_bears r_t_loadAt) H locs := hB.sub [0, 1, 2, 3, 4, 5, 6, 7, 8] (by decide) rfl
      refine lv_if_eq (tgt := 202) hx hb dX12_loads_196 (by decide) (fun c_34 => ?_) (fun c_34 => ?_)
      · replace hf := hf.1 c_34
        refine lv_iconst (v := 1) hx hb dX12_loads_202 (by decide) ?_
        refine lv_aload_n hx hb dX12_loads_203 rfl (lv_at hl 0 rfl) ?_
        refine g_get (w := .ref (d_t 37)) F hB 0 rfl fl_RX12_83 rfl dX12_loads_204 ?_
        refine lv_sipush (v := 256) hx hb dX12_loads_207 (by decide) ?_
        refine lv_iload_n hx hb dX12_loads_210 rfl (lv_at hl 1 rfl) ?_
        refine lv_iconst (v := 1) hx hb dX12_loads_211 (by decide) ?_
        refine lv_iadd hx hb dX12_loads_212 ?_
        refine lv_imul hx hb dX12_loads_213 ?_
        refine lv_iload_n hx hb dX12_loads_214 rfl (lv_at hl 2 rfl) ?_
        refine lv_iconst (v := 1) hx hb dX12_loads_215 (by decide) ?_
        refine lv_iload hx hb dX12_loads_216 (lv_at hl 4 rfl) ?_
        refine lv_ishl hx hb dX12_loads_218 ?_
        refine lv_ior hx hb dX12_loads_219 ?_
        refine lv_iadd hx hb dX12_loads_220 ?_
        obtain ⟨h_32, hf⟩ := hf
        refine g_iald F hB 4 rfl h_32 dX12_loads_221 ?_
        refine lv_iadd hx hb dX12_loads_222 ?_
        refine lv_istore (lv' := [(5, .int ((1 : Int32) + (r_t_mostLoads ((((256 : Int32) * (x1 + (1 : Int32))) + (x2 ||| ((1 : Int32) <<< (x4 &&& 31))))).toNatClampNeg))), (0, .ref a_t), (1, .int x1), (2, .int x2), (3, .int x3), (4, .int x4)]) hx hb dX12_loads_223 hl (by decide) rfl (fun ls hl => ?_)
        refine lv_iload hx hb dX12_loads_225 (lv_at hl 0 rfl) ?_
        refine lv_iload_n hx hb dX12_loads_227 rfl (lv_at hl 4 rfl) ?_
        refine lv_icmp_le (tgt := 236) hx hb dX12_loads_228 (by decide) (fun c_33 => ?_) (fun c_33 => ?_)
        · replace hf := hf.1 c_33
          refine lv_iload_n hx hb dX12_loads_236 rfl (lv_at hl 4 rfl) ?_
          refine lv_istore_n (lv' := [(3, .int x3), (5, .int ((1 : Int32) + (r_t_mostLoads ((((256 : Int32) * (x1 + (1 : Int32))) + (x2 ||| ((1 : Int32) <<< (x4 &&& 31))))).toNatClampNeg))), (0, .ref a_t), (1, .int x1), (2, .int x2), (4, .int x4)]) hx hb dX12_loads_237 rfl hl (by decide) rfl (fun ls hl => ?_)
          refine lv_iinc (v := (x4 + 1)) (lv' := [(4, .int (x4 + 1)), (3, .int x3), (5, .int ((1 : Int32) + (r_t_mostLoads ((((256 : Int32) * (x1 + (1 : Int32))) + (x2 ||| ((1 : Int32) <<< (x4 &&& 31))))).toNatClampNeg))), (0, .ref a_t), (1, .int x1), (2, .int x2)]) (k := 5) hx hb dX12_loads_238 hl rfl rfl (by decide) rfl (fun ls hl => ?_)
          refine lv_goto (tgt := 169) hx hb dX12_loads_241 (by decide) ?_
          exact hkr_169 _ _ _ _ _ hf hB (lv_sub hl [3, 4, 5, 1, 0] rfl)
        · replace hf := hf.2 c_33
          refine lv_iload hx hb dX12_loads_231 (lv_at hl 0 rfl) ?_
          refine lv_goto (tgt := 237) hx hb dX12_loads_233 (by decide) ?_
          refine lv_istore_n (lv' := [(3, .int ((1 : Int32) + (r_t_mostLoads ((((256 : Int32) * (x1 + (1 : Int32))) + (x2 ||| ((1 : Int32) <<< (x4 &&& 31))))).toNatClampNeg))), (5, .int ((1 : Int32) + (r_t_mostLoads ((((256 : Int32) * (x1 + (1 : Int32))) + (x2 ||| ((1 : Int32) <<< (x4 &&& 31))))).toNatClampNeg))), (0, .ref a_t), (1, .int x1), (2, .int x2), (4, .int x4)]) hx hb dX12_loads_237 rfl hl (by decide) rfl (fun ls hl => ?_)
          refine lv_iinc (v := (x4 + 1)) (lv' := [(4, .int (x4 + 1)), (3, .int ((1 : Int32) + (r_t_mostLoads ((((256 : Int32) * (x1 + (1 : Int32))) + (x2 ||| ((1 : Int32) <<< (x4 &&& 31))))).toNatClampNeg))), (5, .int ((1 : Int32) + (r_t_mostLoads ((((256 : Int32) * (x1 + (1 : Int32))) + (x2 ||| ((1 : Int32) <<< (x4 &&& 31))))).toNatClampNeg))), (0, .ref a_t), (1, .int x1), (2, .int x2)]) (k := 5) hx hb dX12_loads_238 hl rfl rfl (by decide) rfl (fun ls hl => ?_)
          refine lv_goto (tgt := 169) hx hb dX12_loads_241 (by decide) ?_
          exact hkr_169 _ _ _ _ _ hf hB (lv_sub hl [3, 4, 5, 1, 0] rfl)
      · replace hf := hf.2 c_34
        refine lv_goto (tgt := 238) hx hb dX12_loads_199 (by decide) ?_
        refine lv_iinc (v := (x4 + 1)) (lv' := [(4, .int (x4 + 1)), (0, .ref a_t), (1, .int x1), (2, .int x2), (3, .int x3)]) (k := 4) hx hb dX12_loads_238 hl rfl rfl (by decide) rfl (fun ls hl => ?_)
        refine lv_goto (tgt := 169) hx hb dX12_loads_241 (by decide) ?_
        exact hkr_169 _ _ _ _ _ hf hB (lv_sub hl [1, 2, 3, 4, 0] rfl)

set_option maxRecDepth 100000 in
set_option maxHeartbeats 4000000 in
theorem lt_LongTrainModel_loads_169 {p : Program} {l : Launch} {e : Env} {s : State} {m : MethodId} {below : List Frame} {meth : Method} {c : Code} {A : Nat → Prop} {D : va_G} {k : Nat → ClassId} {a_t : Nat} {d_t : Nat → Nat} {i_t : Nat → Int32} {j_t : Nat → Int64} {r_t_tape : Nat → Int32} {r_t_s : Nat → Int32} {r_t_loadMay : Nat → Int32} {r_t_mostLoads : Nat → Int32} {r_t_wagons : Nat → Int32} {r_t_foremost : Nat → Int32} {r_t_bears : Nat → Int32} {r_t_loadAt : Nat → Int32}  {Q : Int32 → (Nat → Int32) → (Nat → Int32) → (Nat → Int32) → (Nat → Int32) → (Nat → Int32) → (Nat → Int32) → (Nat → Int32) → Prop}  {x1 : Int32} {x2 : Int32} {kx_169 : (Int32) → Prop} (F : Fx p m c cX12_loads 6 s ([.ref a_t] : List Value).toArray RX12 D k) (hr : meth.sig.returnType = (some .int)) (hlk : meth.locks = false) (hA : ∀ q : Nat, s.heap.size ≤ q → A q) (hkx_169 : ∀ (x3 : Int32) (H : Heap) (locs : List Loc) (ls : Array Slot), kx_169 x3 → Bd D A s.heap (wd_LongTrainModel_loads k a_t d_t i_t j_t r_t_tape r_t_s r_t_loadMay r_t_mostLoads r_t_wagons r_t_foremost r_t_bears r_t_loadAt) H locs → lv_has ls 6 [(0, .ref a_t), (1, .int x1), (2, .int x2), (3, .int x3)] → W p l e { frames := 4, cells := 0, slots := 0, locals := 89 } s m ([.ref a_t] : List Value).toArray below meth c H locs 0 0 (Ei below (fun r w => ∃ (i_t : Nat → Int32), ∃ (r_t_loadMay : Nat → Int32), ∃ (r_t_mostLoads : Nat → Int32), ∃ (r_t_wagons : Nat → Int32), ∃ (r_t_foremost : Nat → Int32), ∃ (r_t_bears : Nat → Int32), ∃ (r_t_loadAt : Nat → Int32), w = (wd_LongTrainModel_loads k a_t d_t i_t j_t r_t_tape r_t_s r_t_loadMay r_t_mostLoads r_t_wagons r_t_foremost r_t_bears r_t_loadAt) ∧ Q r i_t r_t_loadMay r_t_mostLoads r_t_wagons r_t_foremost r_t_bears r_t_loadAt) D k A ([.ref a_t] : List Value).toArray s 0 0) (F0 m 244 ls [])) :
    ∀ n : Nat, ∀ (x3 : Int32) (x4 : Int32) (H : Heap) (locs : List Loc) (ls : Array Slot), lp_LongTrainModel_loads_169 r_t_loadMay r_t_mostLoads x1 x2 kx_169 n x3 x4 → Bd D A s.heap (wd_LongTrainModel_loads k a_t d_t i_t j_t r_t_tape r_t_s r_t_loadMay r_t_mostLoads r_t_wagons r_t_foremost r_t_bears r_t_loadAt) H locs → lv_has ls 6 [(0, .ref a_t), (1, .int x1), (2, .int x2), (3, .int x3), (4, .int x4)] → W p l e { frames := 4, cells := 0, slots := 0, locals := 89 } s m ([.ref a_t] : List Value).toArray below meth c H locs 0 0 (Ei below (fun r w => ∃ (i_t : Nat → Int32), ∃ (r_t_loadMay : Nat → Int32), ∃ (r_t_mostLoads : Nat → Int32), ∃ (r_t_wagons : Nat → Int32), ∃ (r_t_foremost : Nat → Int32), ∃ (r_t_bears : Nat → Int32), ∃ (r_t_loadAt : Nat → Int32), w = (wd_LongTrainModel_loads k a_t d_t i_t j_t r_t_tape r_t_s r_t_loadMay r_t_mostLoads r_t_wagons r_t_foremost r_t_bears r_t_loadAt) ∧ Q r i_t r_t_loadMay r_t_mostLoads r_t_wagons r_t_foremost r_t_bears r_t_loadAt) D k A ([.ref a_t] : List Value).toArray s 0 0) (F0 m 169 ls []) := by
  intro n
  induction n with
  | zero => intro x3 x4 H locs ls hf; exact absurd hf (fun h => h)
  | succ n ih => exact bt_LongTrainModel_loads_169 F hr hlk hA hkx_169 ih

set_option maxRecDepth 100000 in
set_option maxHeartbeats 4000000 in
theorem bt_LongTrainModel_loads_144 {p : Program} {l : Launch} {e : Env} {s : State} {m : MethodId} {below : List Frame} {meth : Method} {c : Code} {A : Nat → Prop} {D : va_G} {k : Nat → ClassId} {a_t : Nat} {d_t : Nat → Nat} {i_t : Nat → Int32} {j_t : Nat → Int64} {r_t_tape : Nat → Int32} {r_t_s : Nat → Int32} {r_t_loadMay : Nat → Int32} {r_t_wagons : Nat → Int32} {r_t_foremost : Nat → Int32} {r_t_bears : Nat → Int32} {r_t_loadAt : Nat → Int32}  {Q : Int32 → (Nat → Int32) → (Nat → Int32) → (Nat → Int32) → (Nat → Int32) → (Nat → Int32) → (Nat → Int32) → (Nat → Int32) → Prop}  {x1 : Int32} {kx_144 : (Nat → Int32) → Prop} {kr_144 : (Int32) → (Nat → Int32) → Prop} (F : Fx p m c cX12_loads 6 s ([.ref a_t] : List Value).toArray RX12 D k) (hr : meth.sig.returnType = (some .int)) (hlk : meth.locks = false) (hA : ∀ q : Nat, s.heap.size ≤ q → A q) (hkx_144 : ∀ (r_t_mostLoads : Nat → Int32) (H : Heap) (locs : List Loc) (ls : Array Slot), kx_144 r_t_mostLoads → Bd D A s.heap (wd_LongTrainModel_loads k a_t d_t i_t j_t r_t_tape r_t_s r_t_loadMay r_t_mostLoads r_t_wagons r_t_foremost r_t_bears r_t_loadAt) H locs → lv_has ls 6 [(0, .ref a_t), (1, .int x1)] → W p l e { frames := 4, cells := 0, slots := 0, locals := 89 } s m ([.ref a_t] : List Value).toArray below meth c H locs 0 0 (Ei below (fun r w => ∃ (i_t : Nat → Int32), ∃ (r_t_loadMay : Nat → Int32), ∃ (r_t_mostLoads : Nat → Int32), ∃ (r_t_wagons : Nat → Int32), ∃ (r_t_foremost : Nat → Int32), ∃ (r_t_bears : Nat → Int32), ∃ (r_t_loadAt : Nat → Int32), w = (wd_LongTrainModel_loads k a_t d_t i_t j_t r_t_tape r_t_s r_t_loadMay r_t_mostLoads r_t_wagons r_t_foremost r_t_bears r_t_loadAt) ∧ Q r i_t r_t_loadMay r_t_mostLoads r_t_wagons r_t_foremost r_t_bears r_t_loadAt) D k A ([.ref a_t] : List Value).toArray s 0 0) (F0 m 263 ls [])) (hkr_144 : ∀ (x2 : Int32) (r_t_mostLoads : Nat → Int32) (H : Heap) (locs : List Loc) (ls : Array Slot), kr_144 x2 r_t_mostLoads → Bd D A s.heap (wd_LongTrainModel_loads k a_t d_t i_t j_t r_t_tape r_t_s r_t_loadMay r_t_mostLoads r_t_wagons r_t_foremost r_t_bears r_t_loadAt) H locs → lv_has ls 6 [(0, .ref a_t), (1, .int x1), (2, .int x2)] → W p l e { frames := 4, cells := 0, slots := 0, locals := 89 } s m ([.ref a_t] : List Value).toArray below meth c H locs 0 0 (Ei below (fun r w => ∃ (i_t : Nat → Int32), ∃ (r_t_loadMay : Nat → Int32), ∃ (r_t_mostLoads : Nat → Int32), ∃ (r_t_wagons : Nat → Int32), ∃ (r_t_foremost : Nat → Int32), ∃ (r_t_bears : Nat → Int32), ∃ (r_t_loadAt : Nat → Int32), w = (wd_LongTrainModel_loads k a_t d_t i_t j_t r_t_tape r_t_s r_t_loadMay r_t_mostLoads r_t_wagons r_t_foremost r_t_bears r_t_loadAt) ∧ Q r i_t r_t_loadMay r_t_mostLoads r_t_wagons r_t_foremost r_t_bears r_t_loadAt) D k A ([.ref a_t] : List Value).toArray s 0 0) (F0 m 144 ls [])) :
    ∀ (x2 : Int32) (r_t_mostLoads : Nat → Int32) (H : Heap) (locs : List Loc) (ls : Array Slot), b_LongTrainModel_loads_144 r_t_loadMay x1 kx_144 kr_144 x2 r_t_mostLoads → Bd D A s.heap (wd_LongTrainModel_loads k a_t d_t i_t j_t r_t_tape r_t_s r_t_loadMay r_t_mostLoads r_t_wagons r_t_foremost r_t_bears r_t_loadAt) H locs → lv_has ls 6 [(0, .ref a_t), (1, .int x1), (2, .int x2)] → W p l e { frames := 4, cells := 0, slots := 0, locals := 89 } s m ([.ref a_t] : List Value).toArray below meth c H locs 0 0 (Ei below (fun r w => ∃ (i_t : Nat → Int32), ∃ (r_t_loadMay : Nat → Int32), ∃ (r_t_mostLoads : Nat → Int32), ∃ (r_t_wagons : Nat → Int32), ∃ (r_t_foremost : Nat → Int32), ∃ (r_t_bears : Nat → Int32), ∃ (r_t_loadAt : Nat → Int32), w = (wd_LongTrainModel_loads k a_t d_t i_t j_t r_t_tape r_t_s r_t_loadMay r_t_mostLoads r_t_wagons r_t_foremost r_t_bears r_t_loadAt) ∧ Q r i_t r_t_loadMay r_t_mostLoads r_t_wagons r_t_foremost r_t_bears r_t_loadAt) D k A ([.ref a_t] : List Value).toArray s 0 0) (F0 m 144 ls []) := by
  have hx := F.x
  have hb := F.b
  intro x2 r_t_mostLoads H locs ls hf hB hl
  unfold b_LongTrainModel_loads_144 at hf
  refine lv_iload_n hx hb dX12_loads_144 rfl (lv_at hl 2 rfl) ?_
  refine lv_sipush (v := 256) hx hb dX12_loads_145 (by decide) ?_
  refine lv_icmp_ge (tgt := 263) hx hb dX12_loads_148 (by decide) (fun c_40 => ?_) (fun c_40 => ?_)
  · replace hf := hf.1 c_40
    exact hkx_144 _ _ _ _ hf hB (lv_sub hl [0, 1] rfl)
  · replace hf := hf.2 c_40
    refine lv_aload_n hx hb dX12_loads_151 rfl (lv_at hl 0 rfl) ?_
    refine g_get (w := .ref (d_t 37)) F hB 0 rfl fl_RX12_83 rfl dX12_loads_152 ?_
    refine lv_sipush (v := 256) hx hb dX12_loads_155 (by decide) ?_
    refine lv_iload_n hx hb dX12_loads_158 rfl (lv_at hl 1 rfl) ?_
    refine lv_iconst (v := 1) hx hb dX12_loads_159 (by decide) ?_
    refine lv_iadd hx hb dX12_loads_160 ?_
    refine lv_imul hx hb dX12_loads_161 ?_
    refine lv_iload_n hx hb dX12_loads_162 rfl (lv_at hl 2 rfl) ?_
    refine lv_iadd hx hb dX12_loads_163 ?_
    obtain ⟨h_26, hf⟩ := hf
    refine g_iald F hB 4 rfl h_26 dX12_loads_164 ?_
    refine lv_istore_n (lv' := [(3, .int (r_t_mostLoads ((((256 : Int32) * (x1 + (1 : Int32))) + x2)).toNatClampNeg)), (0, .ref a_t), (1, .int x1), (2, .int x2)]) hx hb dX12_loads_165 rfl hl (by decide) rfl (fun ls hl => ?_)
    refine lv_iconst (v := 0) hx hb dX12_loads_166 (by decide) ?_
    refine lv_istore (lv' := [(4, .int (0 : Int32)), (3, .int (r_t_mostLoads ((((256 : Int32) * (x1 + (1 : Int32))) + x2)).toNatClampNeg)), (0, .ref a_t), (1, .int x1), (2, .int x2)]) hx hb dX12_loads_167 hl (by decide) rfl (fun ls hl => ?_)
    obtain ⟨n_39, hf⟩ := hf
    refine lt_LongTrainModel_loads_169 F hr hlk hA (fun x3_37 H locs ls hf hB hl => ?_) n_39 _ _ _ _ _ hf hB (lv_sub hl [2, 3, 4, 1, 0] rfl)
    refine lv_aload_n hx hb dX12_loads_244 rfl (lv_at hl 0 rfl) ?_
    refine g_get (w := .ref (d_t 37)) F hB 0 rfl fl_RX12_83 rfl dX12_loads_245 ?_
    refine lv_sipush (v := 256) hx hb dX12_loads_248 (by decide) ?_
    refine lv_iload_n hx hb dX12_loads_251 rfl (lv_at hl 1 rfl) ?_
    refine lv_imul hx hb dX12_loads_252 ?_
    refine lv_iload_n hx hb dX12_loads_253 rfl (lv_at hl 2 rfl) ?_
    refine lv_iadd hx hb dX12_loads_254 ?_
    refine lv_iload_n hx hb dX12_loads_255 rfl (lv_at hl 3 rfl) ?_
    obtain ⟨h_38, hf⟩ := hf
    refine g_iast F hB 4 rfl h_38 (wd_LongTrainModel_loads k a_t d_t i_t j_t r_t_tape r_t_s r_t_loadMay (upd r_t_mostLoads ((((256 : Int32) * x1) + x2)).toNatClampNeg x3_37) r_t_wagons r_t_foremost r_t_bears r_t_loadAt) rfl dX12_loads_256 (fun H locs hB => ?_)
    refine lv_iinc (v := (x2 + 1)) (lv' := [(2, .int (x2 + 1)), (0, .ref a_t), (1, .int x1), (3, .int x3_37)]) (k := 2) hx hb dX12_loads_257 hl rfl rfl (by decide) rfl (fun ls hl => ?_)
    refine lv_goto (tgt := 144) hx hb dX12_loads_260 (by decide) ?_
    exact hkr_144 _ _ _ _ _ hf hB (lv_sub hl [1, 2, 0] rfl)

set_option maxRecDepth 100000 in
set_option maxHeartbeats 4000000 in
theorem lt_LongTrainModel_loads_144 {p : Program} {l : Launch} {e : Env} {s : State} {m : MethodId} {below : List Frame} {meth : Method} {c : Code} {A : Nat → Prop} {D : va_G} {k : Nat → ClassId} {a_t : Nat} {d_t : Nat → Nat} {i_t : Nat → Int32} {j_t : Nat → Int64} {r_t_tape : Nat → Int32} {r_t_s : Nat → Int32} {r_t_loadMay : Nat → Int32} {r_t_wagons : Nat → Int32} {r_t_foremost : Nat → Int32} {r_t_bears : Nat → Int32} {r_t_loadAt : Nat → Int32}  {Q : Int32 → (Nat → Int32) → (Nat → Int32) → (Nat → Int32) → (Nat → Int32) → (Nat → Int32) → (Nat → Int32) → (Nat → Int32) → Prop}  {x1 : Int32} {kx_144 : (Nat → Int32) → Prop} (F : Fx p m c cX12_loads 6 s ([.ref a_t] : List Value).toArray RX12 D k) (hr : meth.sig.returnType = (some .int)) (hlk : meth.locks = false) (hA : ∀ q : Nat, s.heap.size ≤ q → A q) (hkx_144 : ∀ (r_t_mostLoads : Nat → Int32) (H : Heap) (locs : List Loc) (ls : Array Slot), kx_144 r_t_mostLoads → Bd D A s.heap (wd_LongTrainModel_loads k a_t d_t i_t j_t r_t_tape r_t_s r_t_loadMay r_t_mostLoads r_t_wagons r_t_foremost r_t_bears r_t_loadAt) H locs → lv_has ls 6 [(0, .ref a_t), (1, .int x1)] → W p l e { frames := 4, cells := 0, slots := 0, locals := 89 } s m ([.ref a_t] : List Value).toArray below meth c H locs 0 0 (Ei below (fun r w => ∃ (i_t : Nat → Int32), ∃ (r_t_loadMay : Nat → Int32), ∃ (r_t_mostLoads : Nat → Int32), ∃ (r_t_wagons : Nat → Int32), ∃ (r_t_foremost : Nat → Int32), ∃ (r_t_bears : Nat → Int32), ∃ (r_t_loadAt : Nat → Int32), w = (wd_LongTrainModel_loads k a_t d_t i_t j_t r_t_tape r_t_s r_t_loadMay r_t_mostLoads r_t_wagons r_t_foremost r_t_bears r_t_loadAt) ∧ Q r i_t r_t_loadMay r_t_mostLoads r_t_wagons r_t_foremost r_t_bears r_t_loadAt) D k A ([.ref a_t] : List Value).toArray s 0 0) (F0 m 263 ls [])) :
    ∀ n : Nat, ∀ (x2 : Int32) (r_t_mostLoads : Nat → Int32) (H : Heap) (locs : List Loc) (ls : Array Slot), lp_LongTrainModel_loads_144 r_t_loadMay x1 kx_144 n x2 r_t_mostLoads → Bd D A s.heap (wd_LongTrainModel_loads k a_t d_t i_t j_t r_t_tape r_t_s r_t_loadMay r_t_mostLoads r_t_wagons r_t_foremost r_t_bears r_t_loadAt) H locs → lv_has ls 6 [(0, .ref a_t), (1, .int x1), (2, .int x2)] → W p l e { frames := 4, cells := 0, slots := 0, locals := 89 } s m ([.ref a_t] : List Value).toArray below meth c H locs 0 0 (Ei below (fun r w => ∃ (i_t : Nat → Int32), ∃ (r_t_loadMay : Nat → Int32), ∃ (r_t_mostLoads : Nat → Int32), ∃ (r_t_wagons : Nat → Int32), ∃ (r_t_foremost : Nat → Int32), ∃ (r_t_bears : Nat → Int32), ∃ (r_t_loadAt : Nat → Int32), w = (wd_LongTrainModel_loads k a_t d_t i_t j_t r_t_tape r_t_s r_t_loadMay r_t_mostLoads r_t_wagons r_t_foremost r_t_bears r_t_loadAt) ∧ Q r i_t r_t_loadMay r_t_mostLoads r_t_wagons r_t_foremost r_t_bears r_t_loadAt) D k A ([.ref a_t] : List Value).toArray s 0 0) (F0 m 144 ls []) := by
  intro n
  induction n with
  | zero => intro x2 r_t_mostLoads H locs ls hf; exact absurd hf (fun h => h)
  | succ n ih => exact bt_LongTrainModel_loads_144 F hr hlk hA hkx_144 ih

set_option maxRecDepth 100000 in
set_option maxHeartbeats 4000000 in
theorem bt_LongTrainModel_loads_138 {p : Program} {l : Launch} {e : Env} {s : State} {m : MethodId} {below : List Frame} {meth : Method} {c : Code} {A : Nat → Prop} {D : va_G} {k : Nat → ClassId} {a_t : Nat} {d_t : Nat → Nat} {i_t : Nat → Int32} {j_t : Nat → Int64} {r_t_tape : Nat → Int32} {r_t_s : Nat → Int32} {r_t_loadMay : Nat → Int32} {r_t_wagons : Nat → Int32} {r_t_foremost : Nat → Int32} {r_t_bears : Nat → Int32} {r_t_loadAt : Nat → Int32}  {Q : Int32 → (Nat → Int32) → (Nat → Int32) → (Nat → Int32) → (Nat → Int32) → (Nat → Int32) → (Nat → Int32) → (Nat → Int32) → Prop}  {kx_138 : (Nat → Int32) → Prop} {kr_138 : (Int32) → (Nat → Int32) → Prop} (F : Fx p m c cX12_loads 6 s ([.ref a_t] : List Value).toArray RX12 D k) (hr : meth.sig.returnType = (some .int)) (hlk : meth.locks = false) (hA : ∀ q : Nat, s.heap.size ≤ q → A q) (hkx_138 : ∀ (r_t_mostLoads : Nat → Int32) (H : Heap) (locs : List Loc) (ls : Array Slot), kx_138 r_t_mostLoads → Bd D A s.heap (wd_LongTrainModel_loads k a_t d_t i_t j_t r_t_tape r_t_s r_t_loadMay r_t_mostLoads r_t_wagons r_t_foremost r_t_bears r_t_loadAt) H locs → lv_has ls 6 [(0, .ref a_t)] → W p l e { frames := 4, cells := 0, slots := 0, locals := 89 } s m ([.ref a_t] : List Value).toArray below meth c H locs 0 0 (Ei below (fun r w => ∃ (i_t : Nat → Int32), ∃ (r_t_loadMay : Nat → Int32), ∃ (r_t_mostLoads : Nat → Int32), ∃ (r_t_wagons : Nat → Int32), ∃ (r_t_foremost : Nat → Int32), ∃ (r_t_bears : Nat → Int32), ∃ (r_t_loadAt : Nat → Int32), w = (wd_LongTrainModel_loads k a_t d_t i_t j_t r_t_tape r_t_s r_t_loadMay r_t_mostLoads r_t_wagons r_t_foremost r_t_bears r_t_loadAt) ∧ Q r i_t r_t_loadMay r_t_mostLoads r_t_wagons r_t_foremost r_t_bears r_t_loadAt) D k A ([.ref a_t] : List Value).toArray s 0 0) (F0 m 269 ls [])) (hkr_138 : ∀ (x1 : Int32) (r_t_mostLoads : Nat → Int32) (H : Heap) (locs : List Loc) (ls : Array Slot), kr_138 x1 r_t_mostLoads → Bd D A s.heap (wd_LongTrainModel_loads k a_t d_t i_t j_t r_t_tape r_t_s r_t_loadMay r_t_mostLoads r_t_wagons r_t_foremost r_t_bears r_t_loadAt) H locs → lv_has ls 6 [(0, .ref a_t), (1, .int x1)] → W p l e { frames := 4, cells := 0, slots := 0, locals := 89 } s m ([.ref a_t] : List Value).toArray below meth c H locs 0 0 (Ei below (fun r w => ∃ (i_t : Nat → Int32), ∃ (r_t_loadMay : Nat → Int32), ∃ (r_t_mostLoads : Nat → Int32), ∃ (r_t_wagons : Nat → Int32), ∃ (r_t_foremost : Nat → Int32), ∃ (r_t_bears : Nat → Int32), ∃ (r_t_loadAt : Nat → Int32), w = (wd_LongTrainModel_loads k a_t d_t i_t j_t r_t_tape r_t_s r_t_loadMay r_t_mostLoads r_t_wagons r_t_foremost r_t_bears r_t_loadAt) ∧ Q r i_t r_t_loadMay r_t_mostLoads r_t_wagons r_t_foremost r_t_bears r_t_loadAt) D k A ([.ref a_t] : List Value).toArray s 0 0) (F0 m 138 ls [])) :
    ∀ (x1 : Int32) (r_t_mostLoads : Nat → Int32) (H : Heap) (locs : List Loc) (ls : Array Slot), b_LongTrainModel_loads_138 r_t_loadMay kx_138 kr_138 x1 r_t_mostLoads → Bd D A s.heap (wd_LongTrainModel_loads k a_t d_t i_t j_t r_t_tape r_t_s r_t_loadMay r_t_mostLoads r_t_wagons r_t_foremost r_t_bears r_t_loadAt) H locs → lv_has ls 6 [(0, .ref a_t), (1, .int x1)] → W p l e { frames := 4, cells := 0, slots := 0, locals := 89 } s m ([.ref a_t] : List Value).toArray below meth c H locs 0 0 (Ei below (fun r w => ∃ (i_t : Nat → Int32), ∃ (r_t_loadMay : Nat → Int32), ∃ (r_t_mostLoads : Nat → Int32), ∃ (r_t_wagons : Nat → Int32), ∃ (r_t_foremost : Nat → Int32), ∃ (r_t_bears : Nat → Int32), ∃ (r_t_loadAt : Nat → Int32), w = (wd_LongTrainModel_loads k a_t d_t i_t j_t r_t_tape r_t_s r_t_loadMay r_t_mostLoads r_t_wagons r_t_foremost r_t_bears r_t_loadAt) ∧ Q r i_t r_t_loadMay r_t_mostLoads r_t_wagons r_t_foremost r_t_bears r_t_loadAt) D k A ([.ref a_t] : List Value).toArray s 0 0) (F0 m 138 ls []) := by
  have hx := F.x
  have hb := F.b
  intro x1 r_t_mostLoads H locs ls hf hB hl
  unfold b_LongTrainModel_loads_138 at hf
  refine lv_iload_n hx hb dX12_loads_138 rfl (lv_at hl 1 rfl) ?_
  refine lv_if_lt (tgt := 269) hx hb dX12_loads_139 (by decide) (fun c_43 => ?_) (fun c_43 => ?_)
  · replace hf := hf.1 c_43
    exact hkx_138 _ _ _ _ hf hB (lv_sub hl [0] rfl)
  · replace hf := hf.2 c_43
    refine lv_iconst (v := 0) hx hb dX12_loads_142 (by decide) ?_
    refine lv_istore_n (lv' := [(2, .int (0 : Int32)), (0, .ref a_t), (1, .int x1)]) hx hb dX12_loads_143 rfl hl (by decide) rfl (fun ls hl => ?_)
    obtain ⟨n_42, hf⟩ := hf
    refine lt_LongTrainModel_loads_144 F hr hlk hA (fun r_t_mostLoads_41 H locs ls hf hB hl => ?_) n_42 _ _ _ _ _ hf hB (lv_sub hl [1, 2, 0] rfl)
    refine lv_iinc (v := (x1 + (-1))) (lv' := [(1, .int (x1 + (-1))), (0, .ref a_t)]) (k := 1) hx hb dX12_loads_263 hl rfl rfl (by decide) rfl (fun ls hl => ?_)
    refine lv_goto (tgt := 138) hx hb dX12_loads_266 (by decide) ?_
    exact hkr_138 _ _ _ _ _ hf hB (lv_sub hl [1, 0] rfl)

set_option maxRecDepth 100000 in
set_option maxHeartbeats 4000000 in
theorem lt_LongTrainModel_loads_138 {p : Program} {l : Launch} {e : Env} {s : State} {m : MethodId} {below : List Frame} {meth : Method} {c : Code} {A : Nat → Prop} {D : va_G} {k : Nat → ClassId} {a_t : Nat} {d_t : Nat → Nat} {i_t : Nat → Int32} {j_t : Nat → Int64} {r_t_tape : Nat → Int32} {r_t_s : Nat → Int32} {r_t_loadMay : Nat → Int32} {r_t_wagons : Nat → Int32} {r_t_foremost : Nat → Int32} {r_t_bears : Nat → Int32} {r_t_loadAt : Nat → Int32}  {Q : Int32 → (Nat → Int32) → (Nat → Int32) → (Nat → Int32) → (Nat → Int32) → (Nat → Int32) → (Nat → Int32) → (Nat → Int32) → Prop}  {kx_138 : (Nat → Int32) → Prop} (F : Fx p m c cX12_loads 6 s ([.ref a_t] : List Value).toArray RX12 D k) (hr : meth.sig.returnType = (some .int)) (hlk : meth.locks = false) (hA : ∀ q : Nat, s.heap.size ≤ q → A q) (hkx_138 : ∀ (r_t_mostLoads : Nat → Int32) (H : Heap) (locs : List Loc) (ls : Array Slot), kx_138 r_t_mostLoads → Bd D A s.heap (wd_LongTrainModel_loads k a_t d_t i_t j_t r_t_tape r_t_s r_t_loadMay r_t_mostLoads r_t_wagons r_t_foremost r_t_bears r_t_loadAt) H locs → lv_has ls 6 [(0, .ref a_t)] → W p l e { frames := 4, cells := 0, slots := 0, locals := 89 } s m ([.ref a_t] : List Value).toArray below meth c H locs 0 0 (Ei below (fun r w => ∃ (i_t : Nat → Int32), ∃ (r_t_loadMay : Nat → Int32), ∃ (r_t_mostLoads : Nat → Int32), ∃ (r_t_wagons : Nat → Int32), ∃ (r_t_foremost : Nat → Int32), ∃ (r_t_bears : Nat → Int32), ∃ (r_t_loadAt : Nat → Int32), w = (wd_LongTrainModel_loads k a_t d_t i_t j_t r_t_tape r_t_s r_t_loadMay r_t_mostLoads r_t_wagons r_t_foremost r_t_bears r_t_loadAt) ∧ Q r i_t r_t_loadMay r_t_mostLoads r_t_wagons r_t_foremost r_t_bears r_t_loadAt) D k A ([.ref a_t] : List Value).toArray s 0 0) (F0 m 269 ls [])) :
    ∀ n : Nat, ∀ (x1 : Int32) (r_t_mostLoads : Nat → Int32) (H : Heap) (locs : List Loc) (ls : Array Slot), lp_LongTrainModel_loads_138 r_t_loadMay kx_138 n x1 r_t_mostLoads → Bd D A s.heap (wd_LongTrainModel_loads k a_t d_t i_t j_t r_t_tape r_t_s r_t_loadMay r_t_mostLoads r_t_wagons r_t_foremost r_t_bears r_t_loadAt) H locs → lv_has ls 6 [(0, .ref a_t), (1, .int x1)] → W p l e { frames := 4, cells := 0, slots := 0, locals := 89 } s m ([.ref a_t] : List Value).toArray below meth c H locs 0 0 (Ei below (fun r w => ∃ (i_t : Nat → Int32), ∃ (r_t_loadMay : Nat → Int32), ∃ (r_t_mostLoads : Nat → Int32), ∃ (r_t_wagons : Nat → Int32), ∃ (r_t_foremost : Nat → Int32), ∃ (r_t_bears : Nat → Int32), ∃ (r_t_loadAt : Nat → Int32), w = (wd_LongTrainModel_loads k a_t d_t i_t j_t r_t_tape r_t_s r_t_loadMay r_t_mostLoads r_t_wagons r_t_foremost r_t_bears r_t_loadAt) ∧ Q r i_t r_t_loadMay r_t_mostLoads r_t_wagons r_t_foremost r_t_bears r_t_loadAt) D k A ([.ref a_t] : List Value).toArray s 0 0) (F0 m 138 ls []) := by
  intro n
  induction n with
  | zero => intro x1 r_t_mostLoads H locs ls hf; exact absurd hf (fun h => h)
  | succ n ih => exact bt_LongTrainModel_loads_138 F hr hlk hA hkx_138 ih

set_option maxRecDepth 100000 in
set_option maxHeartbeats 4000000 in
theorem bt_LongTrainModel_loads_291 {p : Program} {l : Launch} {e : Env} {s : State} {m : MethodId} {below : List Frame} {meth : Method} {c : Code} {A : Nat → Prop} {D : va_G} {k : Nat → ClassId} {a_t : Nat} {d_t : Nat → Nat} {i_t : Nat → Int32} {j_t : Nat → Int64} {r_t_tape : Nat → Int32} {r_t_s : Nat → Int32} {r_t_loadMay : Nat → Int32} {r_t_mostLoads : Nat → Int32} {r_t_wagons : Nat → Int32} {r_t_foremost : Nat → Int32} {r_t_bears : Nat → Int32} {r_t_loadAt : Nat → Int32}  {Q : Int32 → (Nat → Int32) → (Nat → Int32) → (Nat → Int32) → (Nat → Int32) → (Nat → Int32) → (Nat → Int32) → (Nat → Int32) → Prop}  {x1 : Int32} {x2 : Int32} {kx_291 : (Int32) → Prop} {kr_291 : (Int32) → Prop} (F : Fx p m c cX12_loads 6 s ([.ref a_t] : List Value).toArray RX12 D k) (hr : meth.sig.returnType = (some .int)) (hlk : meth.locks = false) (hA : ∀ q : Nat, s.heap.size ≤ q → A q) (hkx_291 : ∀ (x3 : Int32) (H : Heap) (locs : List Loc) (ls : Array Slot), kx_291 x3 → Bd D A s.heap (wd_LongTrainModel_loads k a_t d_t i_t j_t r_t_tape r_t_s r_t_loadMay r_t_mostLoads r_t_wagons r_t_foremost r_t_bears r_t_loadAt) H locs → lv_has ls 6 [(0, .ref a_t), (1, .int x1), (2, .int x2), (3, .int x3)] → W p l e { frames := 4, cells := 0, slots := 0, locals := 89 } s m ([.ref a_t] : List Value).toArray below meth c H locs 0 0 (Ei below (fun r w => ∃ (i_t : Nat → Int32), ∃ (r_t_loadMay : Nat → Int32), ∃ (r_t_mostLoads : Nat → Int32), ∃ (r_t_wagons : Nat → Int32), ∃ (r_t_foremost : Nat → Int32), ∃ (r_t_bears : Nat → Int32), ∃ (r_t_loadAt : Nat → Int32), w = (wd_LongTrainModel_loads k a_t d_t i_t j_t r_t_tape r_t_s r_t_loadMay r_t_mostLoads r_t_wagons r_t_foremost r_t_bears r_t_loadAt) ∧ Q r i_t r_t_loadMay r_t_mostLoads r_t_wagons r_t_foremost r_t_bears r_t_loadAt) D k A ([.ref a_t] : List Value).toArray s 0 0) (F0 m 359 ls [])) (hkr_291 : ∀ (x3 : Int32) (H : Heap) (locs : List Loc) (ls : Array Slot), kr_291 x3 → Bd D A s.heap (wd_LongTrainModel_loads k a_t d_t i_t j_t r_t_tape r_t_s r_t_loadMay r_t_mostLoads r_t_wagons r_t_foremost r_t_bears r_t_loadAt) H locs → lv_has ls 6 [(0, .ref a_t), (1, .int x1), (2, .int x2), (3, .int x3)] → W p l e { frames := 4, cells := 0, slots := 0, locals := 89 } s m ([.ref a_t] : List Value).toArray below meth c H locs 0 0 (Ei below (fun r w => ∃ (i_t : Nat → Int32), ∃ (r_t_loadMay : Nat → Int32), ∃ (r_t_mostLoads : Nat → Int32), ∃ (r_t_wagons : Nat → Int32), ∃ (r_t_foremost : Nat → Int32), ∃ (r_t_bears : Nat → Int32), ∃ (r_t_loadAt : Nat → Int32), w = (wd_LongTrainModel_loads k a_t d_t i_t j_t r_t_tape r_t_s r_t_loadMay r_t_mostLoads r_t_wagons r_t_foremost r_t_bears r_t_loadAt) ∧ Q r i_t r_t_loadMay r_t_mostLoads r_t_wagons r_t_foremost r_t_bears r_t_loadAt) D k A ([.ref a_t] : List Value).toArray s 0 0) (F0 m 291 ls [])) :
    ∀ (x3 : Int32) (H : Heap) (locs : List Loc) (ls : Array Slot), b_LongTrainModel_loads_291 r_t_loadMay r_t_mostLoads x1 x2 kx_291 kr_291 x3 → Bd D A s.heap (wd_LongTrainModel_loads k a_t d_t i_t j_t r_t_tape r_t_s r_t_loadMay r_t_mostLoads r_t_wagons r_t_foremost r_t_bears r_t_loadAt) H locs → lv_has ls 6 [(0, .ref a_t), (1, .int x1), (2, .int x2), (3, .int x3)] → W p l e { frames := 4, cells := 0, slots := 0, locals := 89 } s m ([.ref a_t] : List Value).toArray below meth c H locs 0 0 (Ei below (fun r w => ∃ (i_t : Nat → Int32), ∃ (r_t_loadMay : Nat → Int32), ∃ (r_t_mostLoads : Nat → Int32), ∃ (r_t_wagons : Nat → Int32), ∃ (r_t_foremost : Nat → Int32), ∃ (r_t_bears : Nat → Int32), ∃ (r_t_loadAt : Nat → Int32), w = (wd_LongTrainModel_loads k a_t d_t i_t j_t r_t_tape r_t_s r_t_loadMay r_t_mostLoads r_t_wagons r_t_foremost r_t_bears r_t_loadAt) ∧ Q r i_t r_t_loadMay r_t_mostLoads r_t_wagons r_t_foremost r_t_bears r_t_loadAt) D k A ([.ref a_t] : List Value).toArray s 0 0) (F0 m 291 ls []) := by
  have hx := F.x
  have hb := F.b
  intro x3 H locs ls hf hB hl
  unfold b_LongTrainModel_loads_291 at hf
  refine lv_iload_n hx hb dX12_loads_291 rfl (lv_at hl 3 rfl) ?_
  refine lv_bipush (v := 8) hx hb dX12_loads_292 (by decide) ?_
  refine lv_icmp_ge (tgt := 359) hx hb dX12_loads_294 (by decide) (fun c_55 => ?_) (fun c_55 => ?_)
  · replace hf := hf.1 c_55
    exact hkx_291 _ _ _ _ hf hB (lv_sub hl [0, 1, 2, 3] rfl)
  · replace hf := hf.2 c_55
    refine lv_aload_n hx hb dX12_loads_297 rfl (lv_at hl 0 rfl) ?_
    refine g_get (w := .ref (d_t 34)) F hB 0 rfl fl_RX12_74 rfl dX12_loads_298 ?_
    refine lv_iload_n hx hb dX12_loads_301 rfl (lv_at hl 2 rfl) ?_
    obtain ⟨h_45, hf⟩ := hf
    refine g_iald F hB 3 rfl h_45 dX12_loads_302 ?_
    refine lv_iload_n hx hb dX12_loads_303 rfl (lv_at hl 3 rfl) ?_
    refine k_si (wr := [(a_t, ob 12 (rfd d_t) i_t j_t), ((d_t 1), ab k 940 r_t_tape), ((d_t 6), ai k 1068 r_t_s), ((d_t 34), ai k 8 r_t_loadMay), ((d_t 37), ai k 2304 r_t_mostLoads), ((d_t 22), ai k 20 r_t_wagons), ((d_t 23), ai k 20 r_t_foremost), ((d_t 24), ai k 20 r_t_bears), ((d_t 35), ai k 8 r_t_loadAt)]) (rest := []) F hA hB (c_LongTrainModel_has l D k (r_t_loadMay (x2).toNatClampNeg) x3 _  hf) ml_RX12_229 ms_yX12_has [] [0, 1, 2, 3, 4, 5, 6, 7, 8] rfl rfl (by decide) (by decide) (by decide) rfl hl.1 rfl (Nat.le_of_ble_eq_true rfl) ⟨Nat.le_of_ble_eq_true rfl, Nat.le_of_ble_eq_true rfl⟩ ⟨Nat.le_of_ble_eq_true rfl, Nat.le_of_ble_eq_true rfl⟩ dX12_loads_304 (fun z_46 w1 H locs hq hB => ?_)
    obtain ⟨h_47, rfl, hf⟩ := hq
    replace hB : Bd D A s.heap (wd_LongTrainModel_loads k a_t d_t i_t j_t r_t_tape r_t_s r_t_loadMay r_t_mostLoads r_t_wagons r_t_foremost r_t_bears r_t_loadAt) H locs := hB.sub [0, 1, 2, 3, 4, 5, 6, 7, 8] (by decide) rfl
    refine lv_if_eq (tgt := 353) hx hb dX12_loads_307 (by decide) (fun c_54 => ?_) (fun c_54 => ?_)
    · replace hf := hf.1 c_54
      refine lv_iinc (v := (x3 + 1)) (lv' := [(3, .int (x3 + 1)), (0, .ref a_t), (1, .int x1), (2, .int x2)]) (k := 3) hx hb dX12_loads_353 hl rfl rfl (by decide) rfl (fun ls hl => ?_)
      refine lv_goto (tgt := 291) hx hb dX12_loads_356 (by decide) ?_
      exact hkr_291 _ _ _ _ hf hB (lv_sub hl [1, 2, 3, 0] rfl)
    · replace hf := hf.2 c_54
      refine lv_iload_n hx hb dX12_loads_310 rfl (lv_at hl 1 rfl) ?_
      refine lv_iload_n hx hb dX12_loads_311 rfl (lv_at hl 3 rfl) ?_
      refine k_si (wr := [(a_t, ob 12 (rfd d_t) i_t j_t), ((d_t 1), ab k 940 r_t_tape), ((d_t 6), ai k 1068 r_t_s), ((d_t 34), ai k 8 r_t_loadMay), ((d_t 37), ai k 2304 r_t_mostLoads), ((d_t 22), ai k 20 r_t_wagons), ((d_t 23), ai k 20 r_t_foremost), ((d_t 24), ai k 20 r_t_bears), ((d_t 35), ai k 8 r_t_loadAt)]) (rest := []) F hA hB (c_LongTrainModel_has l D k x1 x3 _  hf) ml_RX12_229 ms_yX12_has [] [0, 1, 2, 3, 4, 5, 6, 7, 8] rfl rfl (by decide) (by decide) (by decide) rfl hl.1 rfl (Nat.le_of_ble_eq_true rfl) ⟨Nat.le_of_ble_eq_true rfl, Nat.le_of_ble_eq_true rfl⟩ ⟨Nat.le_of_ble_eq_true rfl, Nat.le_of_ble_eq_true rfl⟩ dX12_loads_312 (fun z_48 w1 H locs hq hB => ?_)
      obtain ⟨h_49, rfl, hf⟩ := hq
      replace hB : Bd D A s.heap (wd_LongTrainModel_loads k a_t d_t i_t j_t r_t_tape r_t_s r_t_loadMay r_t_mostLoads r_t_wagons r_t_foremost r_t_bears r_t_loadAt) H locs := hB.sub [0, 1, 2, 3, 4, 5, 6, 7, 8] (by decide) rfl
      refine lv_if_ne (tgt := 353) hx hb dX12_loads_315 (by decide) (fun c_53 => ?_) (fun c_53 => ?_)
      · replace hf := hf.1 c_53
        refine lv_iinc (v := (x3 + 1)) (lv' := [(3, .int (x3 + 1)), (0, .ref a_t), (1, .int x1), (2, .int x2)]) (k := 3) hx hb dX12_loads_353 hl rfl rfl (by decide) rfl (fun ls hl => ?_)
        refine lv_goto (tgt := 291) hx hb dX12_loads_356 (by decide) ?_
        exact hkr_291 _ _ _ _ hf hB (lv_sub hl [1, 2, 3, 0] rfl)
      · replace hf := hf.2 c_53
        refine lv_iconst (v := 1) hx hb dX12_loads_318 (by decide) ?_
        refine lv_aload_n hx hb dX12_loads_319 rfl (lv_at hl 0 rfl) ?_
        refine g_get (w := .ref (d_t 37)) F hB 0 rfl fl_RX12_83 rfl dX12_loads_320 ?_
        refine lv_sipush (v := 256) hx hb dX12_loads_323 (by decide) ?_
        refine lv_iload_n hx hb dX12_loads_326 rfl (lv_at hl 2 rfl) ?_
        refine lv_iconst (v := 1) hx hb dX12_loads_327 (by decide) ?_
        refine lv_iadd hx hb dX12_loads_328 ?_
        refine lv_imul hx hb dX12_loads_329 ?_
        refine lv_iload_n hx hb dX12_loads_330 rfl (lv_at hl 1 rfl) ?_
        refine lv_iconst (v := 1) hx hb dX12_loads_331 (by decide) ?_
        refine lv_iload_n hx hb dX12_loads_332 rfl (lv_at hl 3 rfl) ?_
        refine lv_ishl hx hb dX12_loads_333 ?_
        refine lv_ior hx hb dX12_loads_334 ?_
        refine lv_iadd hx hb dX12_loads_335 ?_
        obtain ⟨h_50, hf⟩ := hf
        refine g_iald F hB 4 rfl h_50 dX12_loads_336 ?_
        refine lv_iadd hx hb dX12_loads_337 ?_
        refine lv_aload_n hx hb dX12_loads_338 rfl (lv_at hl 0 rfl) ?_
        refine g_get (w := .ref (d_t 37)) F hB 0 rfl fl_RX12_83 rfl dX12_loads_339 ?_
        refine lv_sipush (v := 256) hx hb dX12_loads_342 (by decide) ?_
        refine lv_iload_n hx hb dX12_loads_345 rfl (lv_at hl 2 rfl) ?_
        refine lv_imul hx hb dX12_loads_346 ?_
        refine lv_iload_n hx hb dX12_loads_347 rfl (lv_at hl 1 rfl) ?_
        refine lv_iadd hx hb dX12_loads_348 ?_
        obtain ⟨h_51, hf⟩ := hf
        refine g_iald F hB 4 rfl h_51 dX12_loads_349 ?_
        refine lv_icmp_eq (tgt := 359) hx hb dX12_loads_350 (by decide) (fun c_52 => ?_) (fun c_52 => ?_)
        · replace hf := hf.1 c_52
          exact hkx_291 _ _ _ _ hf hB (lv_sub hl [0, 1, 2, 3] rfl)
        · replace hf := hf.2 c_52
          refine lv_iinc (v := (x3 + 1)) (lv' := [(3, .int (x3 + 1)), (0, .ref a_t), (1, .int x1), (2, .int x2)]) (k := 3) hx hb dX12_loads_353 hl rfl rfl (by decide) rfl (fun ls hl => ?_)
          refine lv_goto (tgt := 291) hx hb dX12_loads_356 (by decide) ?_
          exact hkr_291 _ _ _ _ hf hB (lv_sub hl [1, 2, 3, 0] rfl)

set_option maxRecDepth 100000 in
set_option maxHeartbeats 4000000 in
theorem lt_LongTrainModel_loads_291 {p : Program} {l : Launch} {e : Env} {s : State} {m : MethodId} {below : List Frame} {meth : Method} {c : Code} {A : Nat → Prop} {D : va_G} {k : Nat → ClassId} {a_t : Nat} {d_t : Nat → Nat} {i_t : Nat → Int32} {j_t : Nat → Int64} {r_t_tape : Nat → Int32} {r_t_s : Nat → Int32} {r_t_loadMay : Nat → Int32} {r_t_mostLoads : Nat → Int32} {r_t_wagons : Nat → Int32} {r_t_foremost : Nat → Int32} {r_t_bears : Nat → Int32} {r_t_loadAt : Nat → Int32}  {Q : Int32 → (Nat → Int32) → (Nat → Int32) → (Nat → Int32) → (Nat → Int32) → (Nat → Int32) → (Nat → Int32) → (Nat → Int32) → Prop}  {x1 : Int32} {x2 : Int32} {kx_291 : (Int32) → Prop} (F : Fx p m c cX12_loads 6 s ([.ref a_t] : List Value).toArray RX12 D k) (hr : meth.sig.returnType = (some .int)) (hlk : meth.locks = false) (hA : ∀ q : Nat, s.heap.size ≤ q → A q) (hkx_291 : ∀ (x3 : Int32) (H : Heap) (locs : List Loc) (ls : Array Slot), kx_291 x3 → Bd D A s.heap (wd_LongTrainModel_loads k a_t d_t i_t j_t r_t_tape r_t_s r_t_loadMay r_t_mostLoads r_t_wagons r_t_foremost r_t_bears r_t_loadAt) H locs → lv_has ls 6 [(0, .ref a_t), (1, .int x1), (2, .int x2), (3, .int x3)] → W p l e { frames := 4, cells := 0, slots := 0, locals := 89 } s m ([.ref a_t] : List Value).toArray below meth c H locs 0 0 (Ei below (fun r w => ∃ (i_t : Nat → Int32), ∃ (r_t_loadMay : Nat → Int32), ∃ (r_t_mostLoads : Nat → Int32), ∃ (r_t_wagons : Nat → Int32), ∃ (r_t_foremost : Nat → Int32), ∃ (r_t_bears : Nat → Int32), ∃ (r_t_loadAt : Nat → Int32), w = (wd_LongTrainModel_loads k a_t d_t i_t j_t r_t_tape r_t_s r_t_loadMay r_t_mostLoads r_t_wagons r_t_foremost r_t_bears r_t_loadAt) ∧ Q r i_t r_t_loadMay r_t_mostLoads r_t_wagons r_t_foremost r_t_bears r_t_loadAt) D k A ([.ref a_t] : List Value).toArray s 0 0) (F0 m 359 ls [])) :
    ∀ n : Nat, ∀ (x3 : Int32) (H : Heap) (locs : List Loc) (ls : Array Slot), lp_LongTrainModel_loads_291 r_t_loadMay r_t_mostLoads x1 x2 kx_291 n x3 → Bd D A s.heap (wd_LongTrainModel_loads k a_t d_t i_t j_t r_t_tape r_t_s r_t_loadMay r_t_mostLoads r_t_wagons r_t_foremost r_t_bears r_t_loadAt) H locs → lv_has ls 6 [(0, .ref a_t), (1, .int x1), (2, .int x2), (3, .int x3)] → W p l e { frames := 4, cells := 0, slots := 0, locals := 89 } s m ([.ref a_t] : List Value).toArray below meth c H locs 0 0 (Ei below (fun r w => ∃ (i_t : Nat → Int32), ∃ (r_t_loadMay : Nat → Int32), ∃ (r_t_mostLoads : Nat → Int32), ∃ (r_t_wagons : Nat → Int32), ∃ (r_t_foremost : Nat → Int32), ∃ (r_t_bears : Nat → Int32), ∃ (r_t_loadAt : Nat → Int32), w = (wd_LongTrainModel_loads k a_t d_t i_t j_t r_t_tape r_t_s r_t_loadMay r_t_mostLoads r_t_wagons r_t_foremost r_t_bears r_t_loadAt) ∧ Q r i_t r_t_loadMay r_t_mostLoads r_t_wagons r_t_foremost r_t_bears r_t_loadAt) D k A ([.ref a_t] : List Value).toArray s 0 0) (F0 m 291 ls []) := by
  intro n
  induction n with
  | zero => intro x3 H locs ls hf; exact absurd hf (fun h => h)
  | succ n ih => exact bt_LongTrainModel_loads_291 F hr hlk hA hkx_291 ih

set_option maxRecDepth 100000 in
set_option maxHeartbeats 4000000 in
theorem jt_LongTrainModel_loads_359 {p : Program} {l : Launch} {e : Env} {s : State} {m : MethodId} {below : List Frame} {meth : Method} {c : Code} {A : Nat → Prop} {D : va_G} {k : Nat → ClassId} {a_t : Nat} {d_t : Nat → Nat} {i_t : Nat → Int32} {j_t : Nat → Int64} {r_t_tape : Nat → Int32} {r_t_s : Nat → Int32} {r_t_loadMay : Nat → Int32} {r_t_mostLoads : Nat → Int32} {r_t_wagons : Nat → Int32} {r_t_foremost : Nat → Int32} {r_t_bears : Nat → Int32}  {Q : Int32 → (Nat → Int32) → (Nat → Int32) → (Nat → Int32) → (Nat → Int32) → (Nat → Int32) → (Nat → Int32) → (Nat → Int32) → Prop}  {kr_281 : (Int32) → (Int32) → (Nat → Int32) → Prop} (F : Fx p m c cX12_loads 6 s ([.ref a_t] : List Value).toArray RX12 D k) (hr : meth.sig.returnType = (some .int)) (hlk : meth.locks = false) (hA : ∀ q : Nat, s.heap.size ≤ q → A q) (hkr_281 : ∀ (x1 : Int32) (x2 : Int32) (r_t_loadAt : Nat → Int32) (H : Heap) (locs : List Loc) (ls : Array Slot), kr_281 x1 x2 r_t_loadAt → Bd D A s.heap (wd_LongTrainModel_loads k a_t d_t i_t j_t r_t_tape r_t_s r_t_loadMay r_t_mostLoads r_t_wagons r_t_foremost r_t_bears r_t_loadAt) H locs → lv_has ls 6 [(0, .ref a_t), (1, .int x1), (2, .int x2)] → W p l e { frames := 4, cells := 0, slots := 0, locals := 89 } s m ([.ref a_t] : List Value).toArray below meth c H locs 0 0 (Ei below (fun r w => ∃ (i_t : Nat → Int32), ∃ (r_t_loadMay : Nat → Int32), ∃ (r_t_mostLoads : Nat → Int32), ∃ (r_t_wagons : Nat → Int32), ∃ (r_t_foremost : Nat → Int32), ∃ (r_t_bears : Nat → Int32), ∃ (r_t_loadAt : Nat → Int32), w = (wd_LongTrainModel_loads k a_t d_t i_t j_t r_t_tape r_t_s r_t_loadMay r_t_mostLoads r_t_wagons r_t_foremost r_t_bears r_t_loadAt) ∧ Q r i_t r_t_loadMay r_t_mostLoads r_t_wagons r_t_foremost r_t_bears r_t_loadAt) D k A ([.ref a_t] : List Value).toArray s 0 0) (F0 m 281 ls [])) :
    ∀ (r_t_loadAt : Nat → Int32) (x1 : Int32) (x2 : Int32) (x3 : Int32) (H : Heap) (locs : List Loc) (ls : Array Slot), j_LongTrainModel_loads_359 r_t_loadAt x1 x2 x3 kr_281 → Bd D A s.heap (wd_LongTrainModel_loads k a_t d_t i_t j_t r_t_tape r_t_s r_t_loadMay r_t_mostLoads r_t_wagons r_t_foremost r_t_bears r_t_loadAt) H locs → lv_has ls 6 [(0, .ref a_t), (1, .int x1), (2, .int x2), (3, .int x3)] → W p l e { frames := 4, cells := 0, slots := 0, locals := 89 } s m ([.ref a_t] : List Value).toArray below meth c H locs 0 0 (Ei below (fun r w => ∃ (i_t : Nat → Int32), ∃ (r_t_loadMay : Nat → Int32), ∃ (r_t_mostLoads : Nat → Int32), ∃ (r_t_wagons : Nat → Int32), ∃ (r_t_foremost : Nat → Int32), ∃ (r_t_bears : Nat → Int32), ∃ (r_t_loadAt : Nat → Int32), w = (wd_LongTrainModel_loads k a_t d_t i_t j_t r_t_tape r_t_s r_t_loadMay r_t_mostLoads r_t_wagons r_t_foremost r_t_bears r_t_loadAt) ∧ Q r i_t r_t_loadMay r_t_mostLoads r_t_wagons r_t_foremost r_t_bears r_t_loadAt) D k A ([.ref a_t] : List Value).toArray s 0 0) (F0 m 359 ls []) := by
  have hx := F.x
  have hb := F.b
  intro r_t_loadAt x1 x2 x3 H locs ls hf hB hl
  unfold j_LongTrainModel_loads_359 at hf
  refine lv_aload_n hx hb dX12_loads_359 rfl (lv_at hl 0 rfl) ?_
  refine g_get (w := .ref (d_t 35)) F hB 0 rfl fl_RX12_77 rfl dX12_loads_360 ?_
  refine lv_iload_n hx hb dX12_loads_363 rfl (lv_at hl 2 rfl) ?_
  refine lv_iload_n hx hb dX12_loads_364 rfl (lv_at hl 3 rfl) ?_
  refine lv_bipush (v := 8) hx hb dX12_loads_365 (by decide) ?_
  refine lv_icmp_ge (tgt := 374) hx hb dX12_loads_367 (by decide) (fun c_61 => ?_) (fun c_61 => ?_)
  · replace hf := hf.1 c_61
    refine lv_iconst (v := -1) hx hb dX12_loads_374 (by decide) ?_
    obtain ⟨h_57, hf⟩ := hf
    refine g_iast F hB 8 rfl h_57 (wd_LongTrainModel_loads k a_t d_t i_t j_t r_t_tape r_t_s r_t_loadMay r_t_mostLoads r_t_wagons r_t_foremost r_t_bears (upd r_t_loadAt (x2).toNatClampNeg (-1 : Int32))) rfl dX12_loads_375 (fun H locs hB => ?_)
    refine lv_iload_n hx hb dX12_loads_376 rfl (lv_at hl 3 rfl) ?_
    refine lv_bipush (v := 8) hx hb dX12_loads_377 (by decide) ?_
    refine lv_icmp_ge (tgt := 388) hx hb dX12_loads_379 (by decide) (fun c_58 => ?_) (fun c_58 => ?_)
    · replace hf := hf.1 c_58
      refine lv_iinc (v := (x2 + 1)) (lv' := [(2, .int (x2 + 1)), (0, .ref a_t), (1, .int x1), (3, .int x3)]) (k := 2) hx hb dX12_loads_388 hl rfl rfl (by decide) rfl (fun ls hl => ?_)
      refine lv_goto (tgt := 281) hx hb dX12_loads_391 (by decide) ?_
      exact hkr_281 _ _ _ _ _ _ hf hB (lv_sub hl [1, 2, 0] rfl)
    · replace hf := hf.2 c_58
      refine lv_iload_n hx hb dX12_loads_382 rfl (lv_at hl 1 rfl) ?_
      refine lv_iconst (v := 1) hx hb dX12_loads_383 (by decide) ?_
      refine lv_iload_n hx hb dX12_loads_384 rfl (lv_at hl 3 rfl) ?_
      refine lv_ishl hx hb dX12_loads_385 ?_
      refine lv_ior hx hb dX12_loads_386 ?_
      refine lv_istore_n (lv' := [(1, .int (x1 ||| ((1 : Int32) <<< (x3 &&& 31)))), (0, .ref a_t), (2, .int x2), (3, .int x3)]) hx hb dX12_loads_387 rfl hl (by decide) rfl (fun ls hl => ?_)
      refine lv_iinc (v := (x2 + 1)) (lv' := [(2, .int (x2 + 1)), (1, .int (x1 ||| ((1 : Int32) <<< (x3 &&& 31)))), (0, .ref a_t), (3, .int x3)]) (k := 2) hx hb dX12_loads_388 hl rfl rfl (by decide) rfl (fun ls hl => ?_)
      refine lv_goto (tgt := 281) hx hb dX12_loads_391 (by decide) ?_
      exact hkr_281 _ _ _ _ _ _ hf hB (lv_sub hl [2, 1, 0] rfl)
  · replace hf := hf.2 c_61
    refine lv_iload_n hx hb dX12_loads_370 rfl (lv_at hl 3 rfl) ?_
    refine lv_goto (tgt := 375) hx hb dX12_loads_371 (by decide) ?_
    obtain ⟨h_59, hf⟩ := hf
    refine g_iast F hB 8 rfl h_59 (wd_LongTrainModel_loads k a_t d_t i_t j_t r_t_tape r_t_s r_t_loadMay r_t_mostLoads r_t_wagons r_t_foremost r_t_bears (upd r_t_loadAt (x2).toNatClampNeg x3)) rfl dX12_loads_375 (fun H locs hB => ?_)
    refine lv_iload_n hx hb dX12_loads_376 rfl (lv_at hl 3 rfl) ?_
    refine lv_bipush (v := 8) hx hb dX12_loads_377 (by decide) ?_
    refine lv_icmp_ge (tgt := 388) hx hb dX12_loads_379 (by decide) (fun c_60 => ?_) (fun c_60 => ?_)
    · replace hf := hf.1 c_60
      refine lv_iinc (v := (x2 + 1)) (lv' := [(2, .int (x2 + 1)), (0, .ref a_t), (1, .int x1), (3, .int x3)]) (k := 2) hx hb dX12_loads_388 hl rfl rfl (by decide) rfl (fun ls hl => ?_)
      refine lv_goto (tgt := 281) hx hb dX12_loads_391 (by decide) ?_
      exact hkr_281 _ _ _ _ _ _ hf hB (lv_sub hl [1, 2, 0] rfl)
    · replace hf := hf.2 c_60
      refine lv_iload_n hx hb dX12_loads_382 rfl (lv_at hl 1 rfl) ?_
      refine lv_iconst (v := 1) hx hb dX12_loads_383 (by decide) ?_
      refine lv_iload_n hx hb dX12_loads_384 rfl (lv_at hl 3 rfl) ?_
      refine lv_ishl hx hb dX12_loads_385 ?_
      refine lv_ior hx hb dX12_loads_386 ?_
      refine lv_istore_n (lv' := [(1, .int (x1 ||| ((1 : Int32) <<< (x3 &&& 31)))), (0, .ref a_t), (2, .int x2), (3, .int x3)]) hx hb dX12_loads_387 rfl hl (by decide) rfl (fun ls hl => ?_)
      refine lv_iinc (v := (x2 + 1)) (lv' := [(2, .int (x2 + 1)), (1, .int (x1 ||| ((1 : Int32) <<< (x3 &&& 31)))), (0, .ref a_t), (3, .int x3)]) (k := 2) hx hb dX12_loads_388 hl rfl rfl (by decide) rfl (fun ls hl => ?_)
      refine lv_goto (tgt := 281) hx hb dX12_loads_391 (by decide) ?_
      exact hkr_281 _ _ _ _ _ _ hf hB (lv_sub hl [2, 1, 0] rfl)

set_option maxRecDepth 100000 in
set_option maxHeartbeats 4000000 in
theorem bt_LongTrainModel_loads_281 {p : Program} {l : Launch} {e : Env} {s : State} {m : MethodId} {below : List Frame} {meth : Method} {c : Code} {A : Nat → Prop} {D : va_G} {k : Nat → ClassId} {a_t : Nat} {d_t : Nat → Nat} {i_t : Nat → Int32} {j_t : Nat → Int64} {r_t_tape : Nat → Int32} {r_t_s : Nat → Int32} {r_t_loadMay : Nat → Int32} {r_t_mostLoads : Nat → Int32} {r_t_wagons : Nat → Int32} {r_t_foremost : Nat → Int32} {r_t_bears : Nat → Int32}  {Q : Int32 → (Nat → Int32) → (Nat → Int32) → (Nat → Int32) → (Nat → Int32) → (Nat → Int32) → (Nat → Int32) → (Nat → Int32) → Prop}  {kx_281 : (Nat → Int32) → Prop} {kr_281 : (Int32) → (Int32) → (Nat → Int32) → Prop} (F : Fx p m c cX12_loads 6 s ([.ref a_t] : List Value).toArray RX12 D k) (hr : meth.sig.returnType = (some .int)) (hlk : meth.locks = false) (hA : ∀ q : Nat, s.heap.size ≤ q → A q) (hkx_281 : ∀ (r_t_loadAt : Nat → Int32) (H : Heap) (locs : List Loc) (ls : Array Slot), kx_281 r_t_loadAt → Bd D A s.heap (wd_LongTrainModel_loads k a_t d_t i_t j_t r_t_tape r_t_s r_t_loadMay r_t_mostLoads r_t_wagons r_t_foremost r_t_bears r_t_loadAt) H locs → lv_has ls 6 [(0, .ref a_t)] → W p l e { frames := 4, cells := 0, slots := 0, locals := 89 } s m ([.ref a_t] : List Value).toArray below meth c H locs 0 0 (Ei below (fun r w => ∃ (i_t : Nat → Int32), ∃ (r_t_loadMay : Nat → Int32), ∃ (r_t_mostLoads : Nat → Int32), ∃ (r_t_wagons : Nat → Int32), ∃ (r_t_foremost : Nat → Int32), ∃ (r_t_bears : Nat → Int32), ∃ (r_t_loadAt : Nat → Int32), w = (wd_LongTrainModel_loads k a_t d_t i_t j_t r_t_tape r_t_s r_t_loadMay r_t_mostLoads r_t_wagons r_t_foremost r_t_bears r_t_loadAt) ∧ Q r i_t r_t_loadMay r_t_mostLoads r_t_wagons r_t_foremost r_t_bears r_t_loadAt) D k A ([.ref a_t] : List Value).toArray s 0 0) (F0 m 394 ls [])) (hkr_281 : ∀ (x1 : Int32) (x2 : Int32) (r_t_loadAt : Nat → Int32) (H : Heap) (locs : List Loc) (ls : Array Slot), kr_281 x1 x2 r_t_loadAt → Bd D A s.heap (wd_LongTrainModel_loads k a_t d_t i_t j_t r_t_tape r_t_s r_t_loadMay r_t_mostLoads r_t_wagons r_t_foremost r_t_bears r_t_loadAt) H locs → lv_has ls 6 [(0, .ref a_t), (1, .int x1), (2, .int x2)] → W p l e { frames := 4, cells := 0, slots := 0, locals := 89 } s m ([.ref a_t] : List Value).toArray below meth c H locs 0 0 (Ei below (fun r w => ∃ (i_t : Nat → Int32), ∃ (r_t_loadMay : Nat → Int32), ∃ (r_t_mostLoads : Nat → Int32), ∃ (r_t_wagons : Nat → Int32), ∃ (r_t_foremost : Nat → Int32), ∃ (r_t_bears : Nat → Int32), ∃ (r_t_loadAt : Nat → Int32), w = (wd_LongTrainModel_loads k a_t d_t i_t j_t r_t_tape r_t_s r_t_loadMay r_t_mostLoads r_t_wagons r_t_foremost r_t_bears r_t_loadAt) ∧ Q r i_t r_t_loadMay r_t_mostLoads r_t_wagons r_t_foremost r_t_bears r_t_loadAt) D k A ([.ref a_t] : List Value).toArray s 0 0) (F0 m 281 ls [])) :
    ∀ (x1 : Int32) (x2 : Int32) (r_t_loadAt : Nat → Int32) (H : Heap) (locs : List Loc) (ls : Array Slot), b_LongTrainModel_loads_281 i_t r_t_loadMay r_t_mostLoads kx_281 kr_281 x1 x2 r_t_loadAt → Bd D A s.heap (wd_LongTrainModel_loads k a_t d_t i_t j_t r_t_tape r_t_s r_t_loadMay r_t_mostLoads r_t_wagons r_t_foremost r_t_bears r_t_loadAt) H locs → lv_has ls 6 [(0, .ref a_t), (1, .int x1), (2, .int x2)] → W p l e { frames := 4, cells := 0, slots := 0, locals := 89 } s m ([.ref a_t] : List Value).toArray below meth c H locs 0 0 (Ei below (fun r w => ∃ (i_t : Nat → Int32), ∃ (r_t_loadMay : Nat → Int32), ∃ (r_t_mostLoads : Nat → Int32), ∃ (r_t_wagons : Nat → Int32), ∃ (r_t_foremost : Nat → Int32), ∃ (r_t_bears : Nat → Int32), ∃ (r_t_loadAt : Nat → Int32), w = (wd_LongTrainModel_loads k a_t d_t i_t j_t r_t_tape r_t_s r_t_loadMay r_t_mostLoads r_t_wagons r_t_foremost r_t_bears r_t_loadAt) ∧ Q r i_t r_t_loadMay r_t_mostLoads r_t_wagons r_t_foremost r_t_bears r_t_loadAt) D k A ([.ref a_t] : List Value).toArray s 0 0) (F0 m 281 ls []) := by
  have hx := F.x
  have hb := F.b
  intro x1 x2 r_t_loadAt H locs ls hf hB hl
  unfold b_LongTrainModel_loads_281 at hf
  refine lv_iload_n hx hb dX12_loads_281 rfl (lv_at hl 2 rfl) ?_
  refine lv_aload_n hx hb dX12_loads_282 rfl (lv_at hl 0 rfl) ?_
  refine g_get (w := .int (i_t 3)) F hB 0 rfl fl_RX12_18 rfl dX12_loads_283 ?_
  refine lv_icmp_ge (tgt := 394) hx hb dX12_loads_286 (by decide) (fun c_63 => ?_) (fun c_63 => ?_)
  · replace hf := hf.1 c_63
    exact hkx_281 _ _ _ _ hf hB (lv_sub hl [0] rfl)
  · replace hf := hf.2 c_63
    refine lv_iconst (v := 0) hx hb dX12_loads_289 (by decide) ?_
    refine lv_istore_n (lv' := [(3, .int (0 : Int32)), (0, .ref a_t), (1, .int x1), (2, .int x2)]) hx hb dX12_loads_290 rfl hl (by decide) rfl (fun ls hl => ?_)
    obtain ⟨n_62, hf⟩ := hf
    refine lt_LongTrainModel_loads_291 F hr hlk hA (fun x3_56 H locs ls hf hB hl => ?_) n_62 _ _ _ _ hf hB (lv_sub hl [1, 2, 3, 0] rfl)
    exact jt_LongTrainModel_loads_359 F hr hlk hA hkr_281 _ _ _ _ _ _ _ hf hB (lv_sub hl [0, 1, 2, 3] rfl)

set_option maxRecDepth 100000 in
set_option maxHeartbeats 4000000 in
theorem lt_LongTrainModel_loads_281 {p : Program} {l : Launch} {e : Env} {s : State} {m : MethodId} {below : List Frame} {meth : Method} {c : Code} {A : Nat → Prop} {D : va_G} {k : Nat → ClassId} {a_t : Nat} {d_t : Nat → Nat} {i_t : Nat → Int32} {j_t : Nat → Int64} {r_t_tape : Nat → Int32} {r_t_s : Nat → Int32} {r_t_loadMay : Nat → Int32} {r_t_mostLoads : Nat → Int32} {r_t_wagons : Nat → Int32} {r_t_foremost : Nat → Int32} {r_t_bears : Nat → Int32}  {Q : Int32 → (Nat → Int32) → (Nat → Int32) → (Nat → Int32) → (Nat → Int32) → (Nat → Int32) → (Nat → Int32) → (Nat → Int32) → Prop}  {kx_281 : (Nat → Int32) → Prop} (F : Fx p m c cX12_loads 6 s ([.ref a_t] : List Value).toArray RX12 D k) (hr : meth.sig.returnType = (some .int)) (hlk : meth.locks = false) (hA : ∀ q : Nat, s.heap.size ≤ q → A q) (hkx_281 : ∀ (r_t_loadAt : Nat → Int32) (H : Heap) (locs : List Loc) (ls : Array Slot), kx_281 r_t_loadAt → Bd D A s.heap (wd_LongTrainModel_loads k a_t d_t i_t j_t r_t_tape r_t_s r_t_loadMay r_t_mostLoads r_t_wagons r_t_foremost r_t_bears r_t_loadAt) H locs → lv_has ls 6 [(0, .ref a_t)] → W p l e { frames := 4, cells := 0, slots := 0, locals := 89 } s m ([.ref a_t] : List Value).toArray below meth c H locs 0 0 (Ei below (fun r w => ∃ (i_t : Nat → Int32), ∃ (r_t_loadMay : Nat → Int32), ∃ (r_t_mostLoads : Nat → Int32), ∃ (r_t_wagons : Nat → Int32), ∃ (r_t_foremost : Nat → Int32), ∃ (r_t_bears : Nat → Int32), ∃ (r_t_loadAt : Nat → Int32), w = (wd_LongTrainModel_loads k a_t d_t i_t j_t r_t_tape r_t_s r_t_loadMay r_t_mostLoads r_t_wagons r_t_foremost r_t_bears r_t_loadAt) ∧ Q r i_t r_t_loadMay r_t_mostLoads r_t_wagons r_t_foremost r_t_bears r_t_loadAt) D k A ([.ref a_t] : List Value).toArray s 0 0) (F0 m 394 ls [])) :
    ∀ n : Nat, ∀ (x1 : Int32) (x2 : Int32) (r_t_loadAt : Nat → Int32) (H : Heap) (locs : List Loc) (ls : Array Slot), lp_LongTrainModel_loads_281 i_t r_t_loadMay r_t_mostLoads kx_281 n x1 x2 r_t_loadAt → Bd D A s.heap (wd_LongTrainModel_loads k a_t d_t i_t j_t r_t_tape r_t_s r_t_loadMay r_t_mostLoads r_t_wagons r_t_foremost r_t_bears r_t_loadAt) H locs → lv_has ls 6 [(0, .ref a_t), (1, .int x1), (2, .int x2)] → W p l e { frames := 4, cells := 0, slots := 0, locals := 89 } s m ([.ref a_t] : List Value).toArray below meth c H locs 0 0 (Ei below (fun r w => ∃ (i_t : Nat → Int32), ∃ (r_t_loadMay : Nat → Int32), ∃ (r_t_mostLoads : Nat → Int32), ∃ (r_t_wagons : Nat → Int32), ∃ (r_t_foremost : Nat → Int32), ∃ (r_t_bears : Nat → Int32), ∃ (r_t_loadAt : Nat → Int32), w = (wd_LongTrainModel_loads k a_t d_t i_t j_t r_t_tape r_t_s r_t_loadMay r_t_mostLoads r_t_wagons r_t_foremost r_t_bears r_t_loadAt) ∧ Q r i_t r_t_loadMay r_t_mostLoads r_t_wagons r_t_foremost r_t_bears r_t_loadAt) D k A ([.ref a_t] : List Value).toArray s 0 0) (F0 m 281 ls []) := by
  intro n
  induction n with
  | zero => intro x1 x2 r_t_loadAt H locs ls hf; exact absurd hf (fun h => h)
  | succ n ih => exact bt_LongTrainModel_loads_281 F hr hlk hA hkx_281 ih

set_option maxRecDepth 100000 in
set_option maxHeartbeats 4000000 in
theorem c_LongTrainModel_loads (l : Launch) (D : va_G) (k : Nat → ClassId) (a_t : Nat) (d_t : Nat → Nat) (i_t : Nat → Int32) (j_t : Nat → Int64) (r_t_tape : Nat → Int32) (r_t_s : Nat → Int32) (r_t_loadMay : Nat → Int32) (r_t_mostLoads : Nat → Int32) (r_t_wagons : Nat → Int32) (r_t_foremost : Nat → Int32) (r_t_bears : Nat → Int32) (r_t_loadAt : Nat → Int32)  (Q : Int32 → (Nat → Int32) → (Nat → Int32) → (Nat → Int32) → (Nat → Int32) → (Nat → Int32) → (Nat → Int32) → (Nat → Int32) → Prop)  (hf : w_LongTrainModel_loads i_t r_t_tape r_t_s r_t_loadMay r_t_mostLoads r_t_wagons r_t_foremost r_t_bears r_t_loadAt Q) : CtI l yX12_loads cX12_loads 6 (some .int) 4 89 0 0 D k [.ref a_t] (wd_LongTrainModel_loads k a_t d_t i_t j_t r_t_tape r_t_s r_t_loadMay r_t_mostLoads r_t_wagons r_t_foremost r_t_bears r_t_loadAt) (fun r w => ∃ (i_t : Nat → Int32), ∃ (r_t_loadMay : Nat → Int32), ∃ (r_t_mostLoads : Nat → Int32), ∃ (r_t_wagons : Nat → Int32), ∃ (r_t_foremost : Nat → Int32), ∃ (r_t_bears : Nat → Int32), ∃ (r_t_loadAt : Nat → Int32), w = (wd_LongTrainModel_loads k a_t d_t i_t j_t r_t_tape r_t_s r_t_loadMay r_t_mostLoads r_t_wagons r_t_foremost r_t_bears r_t_loadAt) ∧ Q r i_t r_t_loadMay r_t_mostLoads r_t_wagons r_t_foremost r_t_bears r_t_loadAt) := by
  refine CtI.of (by decide) (Nat.le_of_ble_eq_true rfl) ?_
  intro p e s m below meth c A F hr hlk hnm hA hB ls hl
  have hx := F.x
  have hb := F.b
  unfold w_LongTrainModel_loads at hf
  replace hl : lv_has ls 6 [(0, .ref a_t)] := hl
  refine lv_aload_n hx hb dX12_loads_0 rfl (lv_at hl 0 rfl) ?_
  refine lv_iconst (v := 0) hx hb dX12_loads_1 (by decide) ?_
  refine g_puti F hB 0 rfl fl_RX12_1 rfl (wd_LongTrainModel_loads k a_t d_t (upd i_t 0 (0 : Int32)) j_t r_t_tape r_t_s r_t_loadMay r_t_mostLoads r_t_wagons r_t_foremost r_t_bears r_t_loadAt) rfl dX12_loads_2 (fun H locs hB => ?_)
  refine lv_aload_n hx hb dX12_loads_5 rfl (lv_at hl 0 rfl) ?_
  refine lv_sipush (v := 940) hx hb dX12_loads_6 (by decide) ?_
  refine k_vv (wr := [((d_t 1), ab k 940 r_t_tape), ((d_t 6), ai k 1068 r_t_s), ((d_t 34), ai k 8 r_t_loadMay), ((d_t 37), ai k 2304 r_t_mostLoads), ((d_t 22), ai k 20 r_t_wagons), ((d_t 23), ai k 20 r_t_foremost), ((d_t 24), ai k 20 r_t_bears), ((d_t 35), ai k 8 r_t_loadAt)]) (rest := []) F hA hB (c_LongTrainModel_taken l D k a_t d_t (upd i_t 0 (0 : Int32)) j_t (940 : Int32) _  hf) ml_RX12_238 mv_yX12_taken [0] [1, 2, 3, 4, 5, 6, 7, 8] rfl rfl (by decide) (by decide) (by decide) 0 rfl rfl rfl hl.1 rfl (Nat.le_of_ble_eq_true rfl) ⟨Nat.le_of_ble_eq_true rfl, Nat.le_of_ble_eq_true rfl⟩ ⟨Nat.le_of_ble_eq_true rfl, Nat.le_of_ble_eq_true rfl⟩ dX12_loads_9 (fun w1 H locs hq hB => ?_)
  obtain ⟨i_t_1, rfl, hf⟩ := hq
  replace hB : Bd D A s.heap (wd_LongTrainModel_loads k a_t d_t i_t_1 j_t r_t_tape r_t_s r_t_loadMay r_t_mostLoads r_t_wagons r_t_foremost r_t_bears r_t_loadAt) H locs := hB.sub [8, 0, 1, 2, 3, 4, 5, 6, 7] (by decide) rfl
  refine lv_aload_n hx hb dX12_loads_12 rfl (lv_at hl 0 rfl) ?_
  refine g_get (w := .int (i_t_1 3)) F hB 0 rfl fl_RX12_18 rfl dX12_loads_13 ?_
  refine lv_iconst (v := 1) hx hb dX12_loads_16 (by decide) ?_
  refine lv_bipush (v := 8) hx hb dX12_loads_17 (by decide) ?_
  refine k_si (wr := [(a_t, ob 12 (rfd d_t) i_t_1 j_t), ((d_t 1), ab k 940 r_t_tape), ((d_t 6), ai k 1068 r_t_s), ((d_t 34), ai k 8 r_t_loadMay), ((d_t 37), ai k 2304 r_t_mostLoads), ((d_t 22), ai k 20 r_t_wagons), ((d_t 23), ai k 20 r_t_foremost), ((d_t 24), ai k 20 r_t_bears), ((d_t 35), ai k 8 r_t_loadAt)]) (rest := []) F hA hB (c_LongTrainModel_isIn l D k (i_t_1 3) (1 : Int32) (8 : Int32) _  hf) ml_RX12_182 ms_yX12_isIn [] [0, 1, 2, 3, 4, 5, 6, 7, 8] rfl rfl (by decide) (by decide) (by decide) rfl hl.1 rfl (Nat.le_of_ble_eq_true rfl) ⟨Nat.le_of_ble_eq_true rfl, Nat.le_of_ble_eq_true rfl⟩ ⟨Nat.le_of_ble_eq_true rfl, Nat.le_of_ble_eq_true rfl⟩ dX12_loads_19 (fun z_2 w1 H locs hq hB => ?_)
  obtain ⟨h_3, rfl, hf⟩ := hq
  replace hB : Bd D A s.heap (wd_LongTrainModel_loads k a_t d_t i_t_1 j_t r_t_tape r_t_s r_t_loadMay r_t_mostLoads r_t_wagons r_t_foremost r_t_bears r_t_loadAt) H locs := hB.sub [0, 1, 2, 3, 4, 5, 6, 7, 8] (by decide) rfl
  refine lv_if_ne (tgt := 27) hx hb dX12_loads_22 (by decide) (fun c_71 => ?_) (fun c_71 => ?_)
  · replace hf := hf.1 c_71
    refine lv_iconst (v := 0) hx hb dX12_loads_27 (by decide) ?_
    refine lv_istore_n (lv' := [(1, .int (0 : Int32)), (0, .ref a_t)]) hx hb dX12_loads_28 rfl hl (by decide) rfl (fun ls hl => ?_)
    obtain ⟨n_70, hf⟩ := hf
    refine lt_LongTrainModel_loads_29 F hr hlk hA (fun  H locs ls hf hB hl => ?_) n_70 _ _ _ _ hf hB (lv_sub hl [1, 0] rfl)
    refine lv_iconst (v := 0) hx hb dX12_loads_57 (by decide) ?_
    refine lv_istore_n (lv' := [(1, .int (0 : Int32)), (0, .ref a_t)]) hx hb dX12_loads_58 rfl hl (by decide) rfl (fun ls hl => ?_)
    obtain ⟨n_69, hf⟩ := hf
    refine lt_LongTrainModel_loads_59 F hr hlk hA (fun i_t_18 r_t_loadMay_19 r_t_wagons_20 r_t_foremost_21 r_t_bears_22 H locs ls hf hB hl => ?_) n_69 _ _ _ _ _ _ _ _ _ hf hB (lv_sub hl [1, 0] rfl)
    refine lv_iconst (v := 0) hx hb dX12_loads_100 (by decide) ?_
    refine lv_istore_n (lv' := [(1, .int (0 : Int32)), (0, .ref a_t)]) hx hb dX12_loads_101 rfl hl (by decide) rfl (fun ls hl => ?_)
    obtain ⟨n_68, hf⟩ := hf
    refine lt_LongTrainModel_loads_102 F hr hlk hA (fun r_t_mostLoads_25 H locs ls hf hB hl => ?_) n_68 _ _ _ _ _ hf hB (lv_sub hl [1, 0] rfl)
    refine lv_aload_n hx hb dX12_loads_131 rfl (lv_at hl 0 rfl) ?_
    refine g_get (w := .int (i_t_18 3)) F hB 0 rfl fl_RX12_18 rfl dX12_loads_132 ?_
    refine lv_iconst (v := 1) hx hb dX12_loads_135 (by decide) ?_
    refine lv_isub hx hb dX12_loads_136 ?_
    refine lv_istore_n (lv' := [(1, .int ((i_t_18 3) - (1 : Int32))), (0, .ref a_t)]) hx hb dX12_loads_137 rfl hl (by decide) rfl (fun ls hl => ?_)
    obtain ⟨n_67, hf⟩ := hf
    refine lt_LongTrainModel_loads_138 F hr hlk hA (fun r_t_mostLoads_44 H locs ls hf hB hl => ?_) n_67 _ _ _ _ _ hf hB (lv_sub hl [1, 0] rfl)
    refine lv_iconst (v := 0) hx hb dX12_loads_269 (by decide) ?_
    refine lv_istore_n (lv' := [(1, .int (0 : Int32)), (0, .ref a_t)]) hx hb dX12_loads_270 rfl hl (by decide) rfl (fun ls hl => ?_)
    refine lv_aload_n hx hb dX12_loads_271 rfl (lv_at hl 1 rfl) ?_
    refine lv_aload_n hx hb dX12_loads_272 rfl (lv_at hl 1 rfl) ?_
    refine g_get (w := .int (i_t_18 3)) F hB 0 rfl fl_RX12_18 rfl dX12_loads_273 ?_
    refine g_puti F hB 0 rfl fl_RX12_86 rfl (wd_LongTrainModel_loads k a_t d_t (upd i_t_18 38 (i_t_18 3)) j_t r_t_tape r_t_s r_t_loadMay_19 r_t_mostLoads_44 r_t_wagons_20 r_t_foremost_21 r_t_bears_22 r_t_loadAt) rfl dX12_loads_276 (fun H locs hB => ?_)
    refine lv_iconst (v := 0) hx hb dX12_loads_279 (by decide) ?_
    refine lv_istore_n (lv' := [(2, .int (0 : Int32)), (1, .int (0 : Int32)), (0, .ref a_t)]) hx hb dX12_loads_280 rfl hl (by decide) rfl (fun ls hl => ?_)
    obtain ⟨n_66, hf⟩ := hf
    refine lt_LongTrainModel_loads_281 F hr hlk hA (fun r_t_loadAt_64 H locs ls hf hB hl => ?_) n_66 _ _ _ _ _ _ hf hB (lv_sub hl [2, 1, 0] rfl)
    refine lv_aload_n hx hb dX12_loads_394 rfl (lv_at hl 0 rfl) ?_
    refine g_get (w := .ref (d_t 37)) F hB 0 rfl fl_RX12_83 rfl dX12_loads_395 ?_
    refine lv_iconst (v := 0) hx hb dX12_loads_398 (by decide) ?_
    refine g_iald F hB 4 rfl (vp_in_iff.mpr (by decide +kernel)) dX12_loads_399 ?_
    refine W.eq (g2 := F0 m 400 ls [.int (r_t_mostLoads_44 0)]) rfl ?_
    exact r_i F hr hlk hB ⟨_, _, _, _, _, _, _, rfl, hf⟩ dX12_loads_400
  · replace hf := hf.2 c_71
    refine lv_iconst (v := -1) hx hb dX12_loads_25 (by decide) ?_
    exact r_i F hr hlk hB ⟨_, _, _, _, _, _, _, rfl, hf⟩ dX12_loads_26

