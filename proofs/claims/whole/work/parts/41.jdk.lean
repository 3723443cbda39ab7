theorem dJ0_charAt_5068e_0 : decode cJ0_charAt_5068e 0 = .ok (.aload_n 0, 1) := by decide +kernel
theorem dJ0_charAt_5068e_1 : decode cJ0_charAt_5068e 1 = .ok (.invokevirtual 492, 3) := by decide +kernel
theorem dJ0_charAt_5068e_4 : decode cJ0_charAt_5068e 4 = .ok (.ifCond .eq 12, 3) := by decide +kernel
theorem dJ0_charAt_5068e_7 : decode cJ0_charAt_5068e 7 = .ok (.aload_n 0, 1) := by decide +kernel
theorem dJ0_charAt_5068e_8 : decode cJ0_charAt_5068e 8 = .ok (.getfield 9, 3) := by decide +kernel
theorem dJ0_charAt_5068e_11 : decode cJ0_charAt_5068e 11 = .ok (.iload_n 1, 1) := by decide +kernel
theorem dJ0_charAt_5068e_12 : decode cJ0_charAt_5068e 12 = .ok (.invokestatic 495, 3) := by decide +kernel
theorem dJ0_charAt_5068e_15 : decode cJ0_charAt_5068e 15 = .ok (.ireturn, 1) := by decide +kernel
theorem dJ0_charAt_5068e_16 : decode cJ0_charAt_5068e 16 = .ok (.aload_n 0, 1) := by decide +kernel
theorem dJ0_charAt_5068e_17 : decode cJ0_charAt_5068e 17 = .ok (.getfield 9, 3) := by decide +kernel
theorem dJ0_charAt_5068e_20 : decode cJ0_charAt_5068e 20 = .ok (.iload_n 1, 1) := by decide +kernel
theorem dJ0_charAt_5068e_21 : decode cJ0_charAt_5068e 21 = .ok (.invokestatic 498, 3) := by decide +kernel
theorem dJ0_charAt_5068e_24 : decode cJ0_charAt_5068e 24 = .ok (.ireturn, 1) := by decide +kernel
theorem dJ0_isLatin1_aae02_0 : decode cJ0_isLatin1_aae02 0 = .ok (.getstatic 38, 3) := by decide +kernel
theorem dJ0_isLatin1_aae02_3 : decode cJ0_isLatin1_aae02 3 = .ok (.ifCond .eq 14, 3) := by decide +kernel
theorem dJ0_isLatin1_aae02_6 : decode cJ0_isLatin1_aae02 6 = .ok (.aload_n 0, 1) := by decide +kernel
theorem dJ0_isLatin1_aae02_7 : decode cJ0_isLatin1_aae02 7 = .ok (.getfield 15, 3) := by decide +kernel
theorem dJ0_isLatin1_aae02_10 : decode cJ0_isLatin1_aae02 10 = .ok (.ifCond .ne 7, 3) := by decide +kernel
theorem dJ0_isLatin1_aae02_13 : decode cJ0_isLatin1_aae02 13 = .ok (.iconst 1, 1) := by decide +kernel
theorem dJ0_isLatin1_aae02_14 : decode cJ0_isLatin1_aae02 14 = .ok (.goto 4, 3) := by decide +kernel
theorem dJ0_isLatin1_aae02_17 : decode cJ0_isLatin1_aae02 17 = .ok (.iconst 0, 1) := by decide +kernel
theorem dJ0_isLatin1_aae02_18 : decode cJ0_isLatin1_aae02 18 = .ok (.ireturn, 1) := by decide +kernel
theorem dJ0_checkIndex_df160_0 : decode cJ0_checkIndex_df160 0 = .ok (.iload_n 0, 1) := by decide +kernel
theorem dJ0_checkIndex_df160_1 : decode cJ0_checkIndex_df160 1 = .ok (.iload_n 1, 1) := by decide +kernel
theorem dJ0_checkIndex_df160_2 : decode cJ0_checkIndex_df160 2 = .ok (.getstatic 1053, 3) := by decide +kernel
theorem dJ0_checkIndex_df160_5 : decode cJ0_checkIndex_df160 5 = .ok (.invokestatic 1059, 3) := by decide +kernel
theorem dJ0_checkIndex_df160_8 : decode cJ0_checkIndex_df160 8 = .ok (.pop, 1) := by decide +kernel
theorem dJ0_checkIndex_df160_9 : decode cJ0_checkIndex_df160 9 = .ok (.return_, 1) := by decide +kernel
theorem dJ1_charAt_3b067_0 : decode cJ1_charAt_3b067 0 = .ok (.iload_n 1, 1) := by decide +kernel
theorem dJ1_charAt_3b067_1 : decode cJ1_charAt_3b067 1 = .ok (.aload_n 0, 1) := by decide +kernel
theorem dJ1_charAt_3b067_2 : decode cJ1_charAt_3b067 2 = .ok (.arraylength, 1) := by decide +kernel
theorem dJ1_charAt_3b067_3 : decode cJ1_charAt_3b067 3 = .ok (.invokestatic 9, 3) := by decide +kernel
theorem dJ1_charAt_3b067_6 : decode cJ1_charAt_3b067 6 = .ok (.aload_n 0, 1) := by decide +kernel
theorem dJ1_charAt_3b067_7 : decode cJ1_charAt_3b067 7 = .ok (.iload_n 1, 1) := by decide +kernel
theorem dJ1_charAt_3b067_8 : decode cJ1_charAt_3b067 8 = .ok (.baload, 1) := by decide +kernel
theorem dJ1_charAt_3b067_9 : decode cJ1_charAt_3b067 9 = .ok (.sipush 255, 3) := by decide +kernel
theorem dJ1_charAt_3b067_12 : decode cJ1_charAt_3b067 12 = .ok (.iand, 1) := by decide +kernel
theorem dJ1_charAt_3b067_13 : decode cJ1_charAt_3b067 13 = .ok (.i2c, 1) := by decide +kernel
theorem dJ1_charAt_3b067_14 : decode cJ1_charAt_3b067 14 = .ok (.ireturn, 1) := by decide +kernel
theorem dJ3_checkIndex_8e157_0 : decode cJ3_checkIndex_8e157 0 = .ok (.iload_n 0, 1) := by decide +kernel
theorem dJ3_checkIndex_8e157_1 : decode cJ3_checkIndex_8e157 1 = .ok (.ifCond .lt 8, 3) := by decide +kernel
theorem dJ3_checkIndex_8e157_4 : decode cJ3_checkIndex_8e157 4 = .ok (.iload_n 0, 1) := by decide +kernel
theorem dJ3_checkIndex_8e157_5 : decode cJ3_checkIndex_8e157 5 = .ok (.iload_n 1, 1) := by decide +kernel
theorem dJ3_checkIndex_8e157_6 : decode cJ3_checkIndex_8e157 6 = .ok (.if_icmp .lt 10, 3) := by decide +kernel
theorem dJ3_checkIndex_8e157_9 : decode cJ3_checkIndex_8e157 9 = .ok (.aload_n 2, 1) := by decide +kernel
theorem dJ3_checkIndex_8e157_10 : decode cJ3_checkIndex_8e157 10 = .ok (.iload_n 0, 1) := by decide +kernel
theorem dJ3_checkIndex_8e157_11 : decode cJ3_checkIndex_8e157 11 = .ok (.iload_n 1, 1) := by decide +kernel
theorem dJ3_checkIndex_8e157_12 : decode cJ3_checkIndex_8e157 12 = .ok (.invokestatic 95, 3) := by decide +kernel
theorem dJ3_checkIndex_8e157_15 : decode cJ3_checkIndex_8e157 15 = .ok (.athrow, 1) := by decide +kernel
theorem dJ3_checkIndex_8e157_16 : decode cJ3_checkIndex_8e157 16 = .ok (.iload_n 0, 1) := by decide +kernel
theorem dJ3_checkIndex_8e157_17 : decode cJ3_checkIndex_8e157 17 = .ok (.ireturn, 1) := by decide +kernel
theorem pm_yJ3_checkIndex_8e157 : yJ3_checkIndex_8e157.cls ≠ "java/lang/invoke/MethodHandle" ∧ yJ3_checkIndex_8e157.cls ≠ "java/lang/invoke/VarHandle" ∧ (parseMethodDescriptor yJ3_checkIndex_8e157.desc).map (fun d => d.parameters.length) = some 3 := by decide +kernel
theorem ml_RJ0_1059 : MLp RJ0 1059 yJ3_checkIndex_8e157 cJ3_checkIndex_8e157 3 (some .int) 3 := ⟨(inT_3 138 rfl rfl), (inT_1 17 rfl rfl), (inT_3 140 rfl rfl), pm_yJ3_checkIndex_8e157⟩
theorem pm_yJ0_checkIndex_df160 : yJ0_checkIndex_df160.cls ≠ "java/lang/invoke/MethodHandle" ∧ yJ0_checkIndex_df160.cls ≠ "java/lang/invoke/VarHandle" ∧ (parseMethodDescriptor yJ0_checkIndex_df160.desc).map (fun d => d.parameters.length) = some 2 := by decide +kernel
theorem ml_RJ1_9 : MLp RJ1 9 yJ0_checkIndex_df160 cJ0_checkIndex_df160 2 none 2 := ⟨(inT_3 133 rfl rfl), (inT_1 15 rfl rfl), (inT_3 135 rfl rfl), pm_yJ0_checkIndex_df160⟩
theorem pm_yJ1_charAt_3b067 : yJ1_charAt_3b067.cls ≠ "java/lang/invoke/MethodHandle" ∧ yJ1_charAt_3b067.cls ≠ "java/lang/invoke/VarHandle" ∧ (parseMethodDescriptor yJ1_charAt_3b067.desc).map (fun d => d.parameters.length) = some 2 := by decide +kernel
theorem ml_RJ0_495 : MLp RJ0 495 yJ1_charAt_3b067 cJ1_charAt_3b067 2 (some .char) 2 := ⟨(inT_3 130 rfl rfl), (inT_1 16 rfl rfl), (inT_3 132 rfl rfl), pm_yJ1_charAt_3b067⟩
theorem pm_yJ0_isLatin1_aae02 : yJ0_isLatin1_aae02.cls ≠ "java/lang/invoke/MethodHandle" ∧ yJ0_isLatin1_aae02.cls ≠ "java/lang/invoke/VarHandle" ∧ (parseMethodDescriptor yJ0_isLatin1_aae02.desc).map (fun d => d.parameters.length) = some 0 := by decide +kernel
theorem ml_RJ0_492 : MLp RJ0 492 yJ0_isLatin1_aae02 cJ0_isLatin1_aae02 1 (some .boolean) 0 := ⟨(inT_3 124 rfl rfl), (inT_1 15 rfl rfl), (inT_3 127 rfl rfl), pm_yJ0_isLatin1_aae02⟩
theorem pm_yJ0_charAt_5068e : yJ0_charAt_5068e.cls ≠ "java/lang/invoke/MethodHandle" ∧ yJ0_charAt_5068e.cls ≠ "java/lang/invoke/VarHandle" ∧ (parseMethodDescriptor yJ0_charAt_5068e.desc).map (fun d => d.parameters.length) = some 1 := by decide +kernel
theorem ml_RX7_73 : MLp RX7 73 yJ0_charAt_5068e cJ0_charAt_5068e 2 (some .char) 1 := ⟨(inT_3 120 rfl rfl), (inT_1 15 rfl rfl), (inT_3 123 rfl rfl), pm_yJ0_charAt_5068e⟩
theorem ms_yJ3_checkIndex_8e157 : Cond.static yJ3_checkIndex_8e157 ∈ UU := (inT_3 139 rfl rfl)
theorem ms_yJ0_checkIndex_df160 : Cond.static yJ0_checkIndex_df160 ∈ UU := (inT_3 134 rfl rfl)
theorem ms_yJ1_charAt_3b067 : Cond.static yJ1_charAt_3b067 ∈ UU := (inT_3 131 rfl rfl)
theorem mv_yJ0_isLatin1_aae02 : MVp yJ0_isLatin1_aae02 := ⟨(inT_3 125 rfl rfl), (inT_3 126 rfl rfl)⟩
theorem mv_yJ0_charAt_5068e : MVp yJ0_charAt_5068e := ⟨(inT_3 121 rfl rfl), (inT_3 122 rfl rfl)⟩
theorem fj_fmt : Cond.fieldLink RJ0 1053 "jdk/internal/util/Preconditions" "SIOOBE_FORMATTER" "Ljava/util/function/BiFunction;" ∈ UU := (inT_3 136 rfl rfl)
theorem fj_cs : Cond.fieldLink RJ0 38 "java/lang/String" "COMPACT_STRINGS" "Z" ∈ UU := (inT_3 128 rfl rfl)
theorem fj_coder : Cond.fieldLink RJ0 15 "java/lang/String" "coder" "B" ∈ UU := (inT_9 73 rfl rfl)
theorem fj_value : Cond.fieldLink RJ0 9 "java/lang/String" "value" "[B" ∈ UU := (inT_9 74 rfl rfl)
/-- the char at x of the constant -/
def kwc (x : Int32) : Int32 := (((KWb.getD x.toNatClampNeg 0) &&& 255).toUInt32 % 65536).toInt32
theorem r_c {p : Program} {l : Launch} {e : Env} {R : Room} {s : State} {m : MethodId} {args : Array Value} {below : List Frame} {meth : Method} {c : Code} {H : Heap} {locs : List Loc} {cells slots : Nat} {cc : ByteArray} {pc nL : Nat} {ls : Array Slot} {D : va_G} {A : Nat → Prop} {k : Nat → ClassId} {ws : va_W} {own : String} {Qp : Int32 → va_W → Prop} {v : Int32} (F : Fx p m c cc nL s args own D k) (hr : meth.sig.returnType = some .char) (hlocks : meth.locks = false) (hB : Bd D A s.heap ws H locs) (hv : narrow .char (.int v) = .int v) (hq : Qp v ws) (hdg : decode cc pc = .ok (.ireturn, 1)) : W p l e R s m args below meth c H locs cells slots (Ei below Qp D k A args s cells slots) (F0 m pc ls [.int v]) :=
  W.zret F.x F.b hr hv (fun t ht hW => ⟨⟨v, ws, rfl, hq, by rw [ht]; exact hB.1, va_K.moved hW.alike F.2, hB.2.1⟩, hB.2.2.F ht⟩) hB.2.2.2.2 hdg hlocks
set_option maxRecDepth 100000 in
theorem cj_pci (l : Launch) (D : va_G) (k : Nat → ClassId) (i n : Int32) (q : Nat) (h0 : ¬ i < 0) (h1 : i < n) : CtI l yJ3_checkIndex_8e157 cJ3_checkIndex_8e157 3 (some .int) 0 0 0 0 D k [.int i, .int n, .ref q] [] (fun r w => w = [] ∧ r = i) := by
  refine CtI.of (by decide) (Nat.le_of_ble_eq_true rfl) ?_
  intro p e s m below meth c A F hr hlk hnm hA hB ls hl
  have hx := F.x
  have hb := F.b
  replace hl : lv_has ls 3 [(0, .int i), (1, .int n), (2, .ref q)] := hl
  refine lv_iload_n hx hb dJ3_checkIndex_8e157_0 rfl (lv_at hl 0 rfl) ?_
  refine lv_if_lt (tgt := 9) hx hb dJ3_checkIndex_8e157_1 (by decide) (fun c => absurd c h0) (fun c => ?_)
  refine lv_iload_n hx hb dJ3_checkIndex_8e157_4 rfl (lv_at hl 0 rfl) ?_
  refine lv_iload_n hx hb dJ3_checkIndex_8e157_5 rfl (lv_at hl 1 rfl) ?_
  refine lv_icmp_lt (tgt := 16) hx hb dJ3_checkIndex_8e157_6 (by decide) (fun c => ?_) (fun c => absurd h1 c)
  refine lv_iload_n hx hb dJ3_checkIndex_8e157_16 rfl (lv_at hl 0 rfl) ?_
  exact r_i F hr hlk hB ⟨rfl, rfl⟩ dJ3_checkIndex_8e157_17
set_option maxRecDepth 100000 in
theorem cj_pciN (l : Launch) (D : va_G) (k : Nat → ClassId) (i n : Int32) (h0 : ¬ i < 0) (h1 : i < n) : CtI l yJ3_checkIndex_8e157 cJ3_checkIndex_8e157 3 (some .int) 0 0 0 0 D k [.int i, .int n, .null] [] (fun r w => w = [] ∧ r = i) := by
  refine CtI.of (by decide) (Nat.le_of_ble_eq_true rfl) ?_
  intro p e s m below meth c A F hr hlk hnm hA hB ls hl
  have hx := F.x
  have hb := F.b
  replace hl : lv_has ls 3 [(0, .int i), (1, .int n), (2, .null)] := hl
  refine lv_iload_n hx hb dJ3_checkIndex_8e157_0 rfl (lv_at hl 0 rfl) ?_
  refine lv_if_lt (tgt := 9) hx hb dJ3_checkIndex_8e157_1 (by decide) (fun c => absurd c h0) (fun c => ?_)
  refine lv_iload_n hx hb dJ3_checkIndex_8e157_4 rfl (lv_at hl 0 rfl) ?_
  refine lv_iload_n hx hb dJ3_checkIndex_8e157_5 rfl (lv_at hl 1 rfl) ?_
  refine lv_icmp_lt (tgt := 16) hx hb dJ3_checkIndex_8e157_6 (by decide) (fun c => ?_) (fun c => absurd h1 c)
  refine lv_iload_n hx hb dJ3_checkIndex_8e157_16 rfl (lv_at hl 0 rfl) ?_
  exact r_i F hr hlk hB ⟨rfl, rfl⟩ dJ3_checkIndex_8e157_17
set_option maxRecDepth 100000 in
theorem cj_sci (l : Launch) (D : va_G) (k : Nat → ClassId) (K : Nat → Nat) (i n : Int32) (h0 : ¬ i < 0) (h1 : i < n) : CeV l yJ0_checkIndex_df160 cJ0_checkIndex_df160 2 none 1 22 0 0 D k K [.int i, .int n] [] (fun w => w = []) := by
  refine CeV.of (by decide) (Nat.le_of_ble_eq_true rfl) ?_
  intro p e s m below meth c A F hr hlk hnm hA hE hB ls hl
  have hx := F.x
  have hb := F.b
  replace hl : lv_has ls 2 [(0, .int i), (1, .int n)] := hl
  refine lv_iload_n hx hb dJ0_checkIndex_df160_0 rfl (lv_at hl 0 rfl) ?_
  refine lv_iload_n hx hb dJ0_checkIndex_df160_1 rfl (lv_at hl 1 rfl) ?_
  rcases hE.2.2.2.1 with hz | ⟨t, hz⟩
  · refine va_gets hx hb hz hB.2.2 F.o (F.t _ fj_fmt) (fun _ h => h) dJ0_checkIndex_df160_2 ?_
    refine k_si (wr := []) (rest := []) F hA hB (cj_pciN l D k i n h0 h1) ml_RJ0_1059 ms_yJ3_checkIndex_8e157 [] [] rfl rfl (by decide) (by decide) (by decide) rfl hl.1 rfl (Nat.le_of_ble_eq_true rfl) ⟨Nat.le_of_ble_eq_true rfl, Nat.le_of_ble_eq_true rfl⟩ ⟨Nat.le_of_ble_eq_true rfl, Nat.le_of_ble_eq_true rfl⟩ dJ0_checkIndex_df160_5 (fun r w1 H locs hq hB => ?_)
    obtain ⟨rfl, rfl⟩ := hq
    refine lv_pop hx hb dJ0_checkIndex_df160_8 rfl ?_
    exact r_v F hr hlk hB rfl dJ0_checkIndex_df160_9
  · refine va_gets hx hb hz hB.2.2 F.o (F.t _ fj_fmt) (fun _ h => h) dJ0_checkIndex_df160_2 ?_
    refine k_si (wr := []) (rest := []) F hA hB (cj_pci l D k i n t h0 h1) ml_RJ0_1059 ms_yJ3_checkIndex_8e157 [] [] rfl rfl (by decide) (by decide) (by decide) rfl hl.1 rfl (Nat.le_of_ble_eq_true rfl) ⟨Nat.le_of_ble_eq_true rfl, Nat.le_of_ble_eq_true rfl⟩ ⟨Nat.le_of_ble_eq_true rfl, Nat.le_of_ble_eq_true rfl⟩ dJ0_checkIndex_df160_5 (fun r w1 H locs hq hB => ?_)
    obtain ⟨rfl, rfl⟩ := hq
    refine lv_pop hx hb dJ0_checkIndex_df160_8 rfl ?_
    exact r_v F hr hlk hB rfl dJ0_checkIndex_df160_9
set_option maxRecDepth 100000 in
theorem cj_lat (l : Launch) (D : va_G) (k : Nat → ClassId) (K : Nat → Nat) (x : Int32) (h : vp_in x 112) : CeI l yJ1_charAt_3b067 cJ1_charAt_3b067 2 (some .char) 2 43 0 0 D k K [.ref (K 1), .int x] [] (fun r w => w = [] ∧ r = kwc x) := by
  have h0 : ¬ x < 0 := fun z => h (Or.inl z)
  have h1 : x < 112 := by
    rw [vp_in_iff] at h
    rw [Int32.lt_iff_toInt_lt]
    exact h.2
  refine CeI.of (by decide) (Nat.le_of_ble_eq_true rfl) ?_
  intro p e s m below meth c A F hr hlk hnm hA hE hB ls hl
  have hx := F.x
  have hb := F.b
  have hT : va_T .byte (K 1) 112 (fun j => .int (KWb.getD j 0)) A s s.heap := (hE.2.1.1 0 (by decide)).2.2.2
  replace hl : lv_has ls 2 [(0, .ref (K 1)), (1, .int x)] := hl
  refine lv_iload_n hx hb dJ1_charAt_3b067_0 rfl (lv_at hl 1 rfl) ?_
  refine lv_aload_n hx hb dJ1_charAt_3b067_1 rfl (lv_at hl 0 rfl) ?_
  refine va_tlen (v := 112) hx hb hT hB.2.2 (by decide) dJ1_charAt_3b067_2 ?_
  refine ke_sv (wr := []) (rest := []) F hE hA hB (cj_sci l D k K x 112 h0 h1) ml_RJ1_9 ms_yJ0_checkIndex_df160 [] [] rfl rfl (by decide) (by decide) (by decide) rfl hl.1 rfl (Nat.le_of_ble_eq_true rfl) ⟨Nat.le_of_ble_eq_true rfl, Nat.le_of_ble_eq_true rfl⟩ ⟨Nat.le_of_ble_eq_true rfl, Nat.le_of_ble_eq_true rfl⟩ dJ1_charAt_3b067_3 (fun w1 H locs hq hB => ?_)
  obtain rfl := hq
  refine lv_aload_n hx hb dJ1_charAt_3b067_6 rfl (lv_at hl 0 rfl) ?_
  refine lv_iload_n hx hb dJ1_charAt_3b067_7 rfl (lv_at hl 1 rfl) ?_
  refine va_tb hx hb hT hB.2.2 h rfl dJ1_charAt_3b067_8 ?_
  refine lv_sipush (v := 255) hx hb dJ1_charAt_3b067_9 (by decide) ?_
  refine lv_iand hx hb dJ1_charAt_3b067_12 ?_
  refine lv_i2c (v := kwc x) hx hb dJ1_charAt_3b067_13 rfl ?_
  exact r_c F hr hlk hB (pk_nc _) ⟨rfl, rfl⟩ dJ1_charAt_3b067_14
set_option maxRecDepth 100000 in
theorem cj_isl (l : Launch) (D : va_G) (k : Nat → ClassId) (K : Nat → Nat) : CeI l yJ0_isLatin1_aae02 cJ0_isLatin1_aae02 1 (some .boolean) 0 0 0 0 D k K [.ref (K 0)] [] (fun r w => w = [] ∧ r = 1) := by
  refine CeI.of (by decide) (Nat.le_of_ble_eq_true rfl) ?_
  intro p e s m below meth c A F hr hlk hnm hA hE hB ls hl
  have hx := F.x
  have hb := F.b
  replace hl : lv_has ls 1 [(0, .ref (K 0))] := hl
  refine va_gets hx hb hE.2.2.1 hB.2.2 F.o (F.t _ fj_cs) (fun _ h => h) dJ0_isLatin1_aae02_0 ?_
  refine lv_if_eq (tgt := 17) hx hb dJ0_isLatin1_aae02_3 (by decide) (fun c => absurd c (by decide)) (fun c => ?_)
  refine lv_aload_n hx hb dJ0_isLatin1_aae02_6 rfl (lv_at hl 0 rfl) ?_
  refine vk_getf hx hb (hE.2.1.1 0 (by decide)).2.1 hB.2.2 F.o (F.t _ fj_coder) (fun _ h => h) dJ0_isLatin1_aae02_7 ?_
  refine lv_if_ne (tgt := 17) hx hb dJ0_isLatin1_aae02_10 (by decide) (fun c => absurd rfl c) (fun c => ?_)
  refine lv_iconst (v := 1) hx hb dJ0_isLatin1_aae02_13 (by decide) ?_
  refine lv_goto (tgt := 18) hx hb dJ0_isLatin1_aae02_14 (by decide) ?_
  exact r_z F hr hlk hB (Or.inr rfl) ⟨rfl, rfl⟩ dJ0_isLatin1_aae02_18
set_option maxRecDepth 100000 in
theorem cj_ch (l : Launch) (D : va_G) (k : Nat → ClassId) (K : Nat → Nat) (x : Int32) (h : vp_in x 112) : CeI l yJ0_charAt_5068e cJ0_charAt_5068e 2 (some .char) 3 64 0 0 D k K [.ref (K 0), .int x] [] (fun r w => w = [] ∧ r = kwc x) := by
  refine CeI.of (by decide) (Nat.le_of_ble_eq_true rfl) ?_
  intro p e s m below meth c A F hr hlk hnm hA hE hB ls hl
  have hx := F.x
  have hb := F.b
  replace hl : lv_has ls 2 [(0, .ref (K 0)), (1, .int x)] := hl
  refine lv_aload_n hx hb dJ0_charAt_5068e_0 rfl (lv_at hl 0 rfl) ?_
  refine ke_vi (As := []) (wr := []) (rest := []) F hE hA hB (cj_isl l D k K) ml_RJ0_492 mv_yJ0_isLatin1_aae02 [] [] rfl rfl (by decide) (by decide) (by decide) (vk_recv (N := 1) (len := [112]) (byt := [KWb]) (adK := fun _ => K 0) (adV := fun _ => K 1) (i := 0) hE.2.1 (by decide) hB.2.2) rfl hl.1 rfl (Nat.le_of_ble_eq_true rfl) ⟨Nat.le_of_ble_eq_true rfl, Nat.le_of_ble_eq_true rfl⟩ ⟨Nat.le_of_ble_eq_true rfl, Nat.le_of_ble_eq_true rfl⟩ dJ0_charAt_5068e_1 (fun r w1 H locs hq hB => ?_)
  obtain ⟨rfl, rfl⟩ := hq
  refine lv_if_eq (tgt := 16) hx hb dJ0_charAt_5068e_4 (by decide) (fun c => absurd c (by decide)) (fun c => ?_)
  refine lv_aload_n hx hb dJ0_charAt_5068e_7 rfl (lv_at hl 0 rfl) ?_
  refine vk_getf hx hb (hE.2.1.1 0 (by decide)).2.2.1 hB.2.2 F.o (F.t _ fj_value) (fun _ h => h) dJ0_charAt_5068e_8 ?_
  refine lv_iload_n hx hb dJ0_charAt_5068e_11 rfl (lv_at hl 1 rfl) ?_
  refine ke_si (wr := []) (rest := []) F hE hA hB (cj_lat l D k K x h) ml_RJ0_495 ms_yJ1_charAt_3b067 [] [] rfl rfl (by decide) (by decide) (by decide) rfl hl.1 rfl (Nat.le_of_ble_eq_true rfl) ⟨Nat.le_of_ble_eq_true rfl, Nat.le_of_ble_eq_true rfl⟩ ⟨Nat.le_of_ble_eq_true rfl, Nat.le_of_ble_eq_true rfl⟩ dJ0_charAt_5068e_12 (fun r w1 H locs hq hB => ?_)
  obtain ⟨rfl, rfl⟩ := hq
  exact r_c F hr hlk hB (pk_nc _) ⟨rfl, rfl⟩ dJ0_charAt_5068e_15
/-- the call, in a method of mine -/
theorem k_charAt {p : Program} {l : Launch} {e : Env} {R : Room} {s : State} {m : MethodId} {args : Array Value} {below : List Frame} {meth : Method} {c : Code} {H : Heap} {locs : List Loc} {cells slots : Nat} {Q : State → Prop} {cc : ByteArray} {pc nL : Nat} {ls : Array Slot} {rest : List Value} {D : va_G} {A : Nat → Prop} {k : Nat → ClassId} {ws : va_W} {K : Nat → Nat} {x : Int32} (F : Fx p m c cc nL s args RX7 D k) (hE : Am K A s s.heap) (hA : ∀ q : Nat, s.heap.size ≤ q → A q) (hB : Bd D A s.heap ws H locs) (isR : List Nat) (hRs : isR.map (fun i => ws[i]?) = ws.map some) (hn : va_nd isR = true) (h : vp_in x 112) (hls : ls.size = nL) (hW : (rest.map fun v => v.category).sum ≤ 8) (hRm : 4 ≤ R.frames ∧ 85 ≤ R.locals) (hf : cells ≤ R.cells ∧ slots ≤ R.slots) (hdg : decode cc pc = .ok (.invokevirtual 73, 3))
    (kk : ∀ (H1 : Heap) (locs1 : List Loc), Bd D A s.heap ws H1 locs1 → W p l e R s m args below meth c H1 locs1 cells slots Q (F0 m (pc + 3) ls (.int (kwc x) :: rest))) : W p l e R s m args below meth c H locs cells slots Q (F0 m pc ls (.int x :: .ref (K 0) :: rest)) := by
  refine ke_vi (As := [.int x]) (wr := ws) (wc := []) (rest := rest) F hE hA hB (cj_ch l D k K x h) ml_RX7_73 mv_yJ0_charAt_5068e [] isR rfl hRs (by decide) hn (fun _ _ h => nomatch h) (vk_recv (N := 1) (len := [112]) (byt := [KWb]) (adK := fun _ => K 0) (adV := fun _ => K 1) (i := 0) hE.2.1 (by decide) hB.2.2) rfl hls rfl hW hRm hf hdg (fun r w1 H locs hq hB => ?_)
  obtain ⟨rfl, rfl⟩ := hq
  rw [List.append_nil] at hB
  exact kk H locs hB
