set_option maxRecDepth 100000 in
set_option maxHeartbeats 4000000 in
theorem lc_10 {p : Program} {l : Launch} {e : Env} {s : State} {m : MethodId} {below : List Frame} {meth : Method} {c : Code} {D : va_G} {k : Nat → ClassId} {K : Nat → Nat} {b L : Nat} {xs : Nat → Int32} {ax am ao : Nat} {cells slots : Nat} {Q : State → Prop} {i : Nat} (C : Cx p l s m meth c D k K b L xs) (hi : i + 6 ≤ L) (hc : cells + 32 ≤ 601024 ∧ slots + 900 ≤ 7293034) (kk : Lk p l e s m below meth c D k b ax am ao (cells + 32) (slots + 900) Q i 1759) : Lk p l e s m below meth c D k b ax am ao cells slots Q i 685 := by
  intro ro wx wm H locs ls hI hB hl
  have F := C.F
  have hx := F.x
  have hb := F.b
  have hc1 := hc.1
  have hc2 := hc.2
  have hA : ∀ q : Nat, s.heap.size ≤ q → (fun q : Nat => s.heap.size ≤ q) q := fun _ h => h
  obtain ⟨fx, hx0⟩ := hI.x0
  obtain ⟨fm, hm0⟩ := hI.m0
  refine lv_aload_n hx hb dL_law_685 rfl (lv_at hl 1 rfl) ?_
  refine l_arg C hi hB (lv_at hl 0 rfl) (lv_at hl 4 rfl) 1 (by decide) (x := 1) (by decide) (by decide) dL_law_686 dL_law_687 dL_law_689 dL_law_690 dL_law_691 ?_
  refine l_arg C hi hB (lv_at hl 0 rfl) (lv_at hl 4 rfl) 2 (by decide) (x := 2) (by decide) (by decide) dL_law_692 dL_law_693 dL_law_695 dL_law_696 dL_law_697 ?_
  refine kb_vi (pre := [(ao, aj k 1 ro)]) (wc := wx) (post := wm) (rest := []) (As := [.int (xs (i + 1)), .int (xs (i + 2))]) F C.E hA hB (P_go l D k K hI (xs (i + 1)) (xs (i + 2))) ml_RL_84 mv_yX11_go hx0 rfl rfl hl.1 rfl (by decide) ⟨Nat.le_of_ble_eq_true rfl, Nat.le_of_ble_eq_true rfl⟩ ⟨by show cells + 0 ≤ 601024; omega, by show slots + 0 ≤ 7293034; omega⟩ dL_law_698 (fun r wx1 H1 locs1 hN hB => ?_)
  replace hB : Bd D (fun q : Nat => s.heap.size ≤ q) s.heap (((ao, aj k 1 ro) :: wx1) ++ (wm ++ [])) H1 locs1 := by rw [List.append_nil]; exact hB
  refine lv_aload_n hx hb dL_law_701 rfl (lv_at hl 2 rfl) ?_
  refine l_arg C hi hB (lv_at hl 0 rfl) (lv_at hl 4 rfl) 1 (by decide) (x := 1) (by decide) (by decide) dL_law_702 dL_law_703 dL_law_705 dL_law_706 dL_law_707 ?_
  refine l_arg C hi hB (lv_at hl 0 rfl) (lv_at hl 4 rfl) 2 (by decide) (x := 2) (by decide) (by decide) dL_law_708 dL_law_709 dL_law_711 dL_law_712 dL_law_713 ?_
  refine ka_vi (pre := (ao, aj k 1 ro) :: wx1) (wc := wm) (post := []) (rest := [.int r]) (As := [.int (xs (i + 1)), .int (xs (i + 2))]) F hA hB hN ml_RL_87 mv_yX12_go hm0 rfl rfl hl.1 rfl (Nat.le_of_ble_eq_true rfl) ⟨Nat.le_of_ble_eq_true rfl, Nat.le_of_ble_eq_true rfl⟩ ⟨by show cells + 0 + 0 ≤ 601024; omega, by show slots + 0 + 0 ≤ 7293034; omega⟩ dL_law_714 (fun r2 wm1 H2 locs2 hq hB => ?_)
  rw [List.append_nil] at hB
  refine lv_icmp_eq (tgt := 1759) hx hb dL_law_717 (by decide) (fun _ => ?_) (fun h => absurd hq.1.symm h)
  exact W.widen (by omega) (by omega) (kk ro wx1 wm1 H2 locs2 ls hq.2 hB hl)

set_option maxRecDepth 100000 in
set_option maxHeartbeats 4000000 in
theorem lc_11 {p : Program} {l : Launch} {e : Env} {s : State} {m : MethodId} {below : List Frame} {meth : Method} {c : Code} {D : va_G} {k : Nat → ClassId} {K : Nat → Nat} {b L : Nat} {xs : Nat → Int32} {ax am ao : Nat} {cells slots : Nat} {Q : State → Prop} {i : Nat} (C : Cx p l s m meth c D k K b L xs) (hi : i + 6 ≤ L) (hc : cells + 32 ≤ 601024 ∧ slots + 900 ≤ 7293034) (kk : Lk p l e s m below meth c D k b ax am ao (cells + 32) (slots + 900) Q i 1759) : Lk p l e s m below meth c D k b ax am ao cells slots Q i 722 := by
  intro ro wx wm H locs ls hI hB hl
  have F := C.F
  have hx := F.x
  have hb := F.b
  have hc1 := hc.1
  have hc2 := hc.2
  have hA : ∀ q : Nat, s.heap.size ≤ q → (fun q : Nat => s.heap.size ≤ q) q := fun _ h => h
  obtain ⟨fx, hx0⟩ := hI.x0
  obtain ⟨fm, hm0⟩ := hI.m0
  refine lv_aload_n hx hb dL_law_722 rfl (lv_at hl 1 rfl) ?_
  refine l_arg C hi hB (lv_at hl 0 rfl) (lv_at hl 4 rfl) 1 (by decide) (x := 1) (by decide) (by decide) dL_law_723 dL_law_724 dL_law_726 dL_law_727 dL_law_728 ?_
  refine l_arg C hi hB (lv_at hl 0 rfl) (lv_at hl 4 rfl) 2 (by decide) (x := 2) (by decide) (by decide) dL_law_729 dL_law_730 dL_law_732 dL_law_733 dL_law_734 ?_
  refine l_arg C hi hB (lv_at hl 0 rfl) (lv_at hl 4 rfl) 3 (by decide) (x := 3) (by decide) (by decide) dL_law_735 dL_law_736 dL_law_738 dL_law_739 dL_law_740 ?_
  refine lv_aload_n hx hb dL_law_741 rfl (lv_at hl 3 rfl) ?_
  refine kw_si (pre := []) (wc := (ao, aj k 1 ro) :: wx) (post := wm) (rest := []) (As := [.ref ax, .int (xs (i + 1)), .int (xs (i + 2)), .int (xs (i + 3)), .ref ao]) F C.E hA hB (P_strain l C.st D k K hI (xs (i + 1)) (xs (i + 2)) (xs (i + 3))) mw_RL_88 rfl hl.1 rfl (by decide) ⟨Nat.le_of_ble_eq_true rfl, Nat.le_of_ble_eq_true rfl⟩ ⟨by show cells + 1 ≤ 601024; omega, by show slots + 6 ≤ 7293034; omega⟩ dL_law_742 (fun r w1 H1 locs1 hq hB => ?_)
  obtain ⟨ro1, wx1, rfl, hN⟩ := hq
  replace hB : Bd D (fun q : Nat => s.heap.size ≤ q) s.heap (((ao, aj k 1 ro1) :: wx1) ++ (wm ++ [])) H1 locs1 := by rw [List.append_nil]; exact hB
  refine lv_istore (lv' := [(5, .int r), (0, .ref b), (1, .ref ax), (2, .ref am), (3, .ref ao), (4, .int (eI (i : Int)))]) hx hb dL_law_745 hl (by decide) rfl (fun ls hl => ?_)
  refine lv_aload_n hx hb dL_law_747 rfl (lv_at hl 3 rfl) ?_
  refine l_arg C hi hB (lv_at hl 1 rfl) (lv_at hl 5 rfl) 1 (by decide) (x := 1) (by decide) (by decide) dL_law_748 dL_law_749 dL_law_751 dL_law_752 dL_law_753 ?_
  refine l_arg C hi hB (lv_at hl 1 rfl) (lv_at hl 5 rfl) 2 (by decide) (x := 2) (by decide) (by decide) dL_law_754 dL_law_755 dL_law_757 dL_law_758 dL_law_759 ?_
  refine l_arg C hi hB (lv_at hl 1 rfl) (lv_at hl 5 rfl) 3 (by decide) (x := 3) (by decide) (by decide) dL_law_760 dL_law_761 dL_law_763 dL_law_764 dL_law_765 ?_
  refine ka_vi (pre := (ao, aj k 1 ro1) :: wx1) (wc := wm) (post := []) (rest := []) (As := [.int (xs (i + 1)), .int (xs (i + 2)), .int (xs (i + 3))]) F hA hB hN ml_RL_91 mv_yX12_strain hm0 rfl rfl hl.1 rfl (Nat.le_of_ble_eq_true rfl) ⟨Nat.le_of_ble_eq_true rfl, Nat.le_of_ble_eq_true rfl⟩ ⟨by show cells + 1 + 0 ≤ 601024; omega, by show slots + 6 + 0 ≤ 7293034; omega⟩ dL_law_766 (fun r1 wm1 H2 locs2 hN2 hB => ?_)
  refine lv_istore (lv' := [(6, .int r1), (5, .int r), (0, .ref b), (1, .ref ax), (2, .ref am), (3, .ref ao), (4, .int (eI (i : Int)))]) hx hb dL_law_769 hl (by decide) rfl (fun ls hl => ?_)
  refine lv_aload_n hx hb dL_law_771 rfl (lv_at hl 4 rfl) ?_
  refine ka_vi (pre := (ao, aj k 1 ro1) :: wx1) (wc := wm1) (post := []) (rest := []) (As := []) F hA hB hN2.1 ml_RL_64 mv_yX12_thrown hN2.2.choose_spec rfl rfl hl.1 rfl (Nat.le_of_ble_eq_true rfl) ⟨Nat.le_of_ble_eq_true rfl, Nat.le_of_ble_eq_true rfl⟩ ⟨by show cells + 1 + 0 ≤ 601024; omega, by show slots + 6 + 0 ≤ 7293034; omega⟩ dL_law_772 (fun r2 wm2 H3 locs3 hq hB => ?_)
  rw [List.append_nil] at hB
  obtain ⟨hq1, hq2, hq3, hI2⟩ := hq
  refine lv_iload hx hb dL_law_775 (lv_at hl 1 rfl) ?_
  refine lv_icmp_eq (tgt := 782) hx hb dL_law_777 (by decide) (fun _ => ?_) (fun h => absurd hq1 h)
  have hend : W p l e room_1 s m #[Value.ref b] below meth c H3 locs3 (cells + 1 + 0 + 0) (slots + 6 + 0 + 0) Q (F0 m 799 ls []) := by
    refine lv_goto (tgt := 1759) hx hb dL_law_799 (by decide) ?_
    exact W.widen (by omega) (by omega) (kk ro1 wx1 wm2 H3 locs3 ls hI2 hB (lv_sub hl [2, 3, 4, 5, 6] rfl))
  refine lv_iload hx hb dL_law_782 (lv_at hl 1 rfl) ?_
  refine lv_if_ne (tgt := 799) hx hb dL_law_784 (by decide) (fun _ => hend) (fun h0 => ?_)
  refine lv_aload_n hx hb dL_law_787 rfl (lv_at hl 5 rfl) ?_
  refine lv_iconst (v := 0) hx hb dL_law_788 (by decide) ?_
  refine g_jald F hB 0 rfl (vp_in_iff.mpr (by decide +kernel)) dL_law_789 ?_
  refine lv_iload hx hb dL_law_790 (lv_at hl 0 rfl) ?_
  refine lv_i2l hx hb dL_law_792 rfl ?_
  refine W.lcmp hx hb dL_law_793 ?_
  refine lv_if_eq (tgt := 799) hx hb dL_law_794 (by decide) (fun _ => hend) (fun h => absurd (lcmp_0 (hq2 h0)) h)

set_option maxRecDepth 100000 in
set_option maxHeartbeats 4000000 in
theorem lc_12 {p : Program} {l : Launch} {e : Env} {s : State} {m : MethodId} {below : List Frame} {meth : Method} {c : Code} {D : va_G} {k : Nat → ClassId} {K : Nat → Nat} {b L : Nat} {xs : Nat → Int32} {ax am ao : Nat} {cells slots : Nat} {Q : State → Prop} {i : Nat} (C : Cx p l s m meth c D k K b L xs) (hi : i + 6 ≤ L) (hc : cells + 32 ≤ 601024 ∧ slots + 900 ≤ 7293034) (kk : Lk p l e s m below meth c D k b ax am ao (cells + 32) (slots + 900) Q i 1759) : Lk p l e s m below meth c D k b ax am ao cells slots Q i 802 := by
  intro ro wx wm H locs ls hI hB hl
  have F := C.F
  have hx := F.x
  have hb := F.b
  have hc1 := hc.1
  have hc2 := hc.2
  have hA : ∀ q : Nat, s.heap.size ≤ q → (fun q : Nat => s.heap.size ≤ q) q := fun _ h => h
  obtain ⟨fx, hx0⟩ := hI.x0
  obtain ⟨fm, hm0⟩ := hI.m0
  refine lv_aload_n hx hb dL_law_802 rfl (lv_at hl 1 rfl) ?_
  refine l_arg C hi hB (lv_at hl 0 rfl) (lv_at hl 4 rfl) 1 (by decide) (x := 1) (by decide) (by decide) dL_law_803 dL_law_804 dL_law_806 dL_law_807 dL_law_808 ?_
  refine l_arg C hi hB (lv_at hl 0 rfl) (lv_at hl 4 rfl) 2 (by decide) (x := 2) (by decide) (by decide) dL_law_809 dL_law_810 dL_law_812 dL_law_813 dL_law_814 ?_
  refine l_arg C hi hB (lv_at hl 0 rfl) (lv_at hl 4 rfl) 3 (by decide) (x := 3) (by decide) (by decide) dL_law_815 dL_law_816 dL_law_818 dL_law_819 dL_law_820 ?_
  refine lv_aload_n hx hb dL_law_821 rfl (lv_at hl 3 rfl) ?_
  refine kw_si (pre := []) (wc := (ao, aj k 1 ro) :: wx) (post := wm) (rest := []) (As := [.ref ax, .int (xs (i + 1)), .int (xs (i + 2)), .int (xs (i + 3)), .ref ao]) F C.E hA hB (P_squeeze l C.st D k K hI (xs (i + 1)) (xs (i + 2)) (xs (i + 3))) mw_RL_92 rfl hl.1 rfl (by decide) ⟨Nat.le_of_ble_eq_true rfl, Nat.le_of_ble_eq_true rfl⟩ ⟨by show cells + 1 ≤ 601024; omega, by show slots + 6 ≤ 7293034; omega⟩ dL_law_822 (fun r w1 H1 locs1 hq hB => ?_)
  obtain ⟨ro1, wx1, rfl, hN⟩ := hq
  replace hB : Bd D (fun q : Nat => s.heap.size ≤ q) s.heap (((ao, aj k 1 ro1) :: wx1) ++ (wm ++ [])) H1 locs1 := by rw [List.append_nil]; exact hB
  refine lv_istore (lv' := [(5, .int r), (0, .ref b), (1, .ref ax), (2, .ref am), (3, .ref ao), (4, .int (eI (i : Int)))]) hx hb dL_law_825 hl (by decide) rfl (fun ls hl => ?_)
  refine lv_aload_n hx hb dL_law_827 rfl (lv_at hl 3 rfl) ?_
  refine l_arg C hi hB (lv_at hl 1 rfl) (lv_at hl 5 rfl) 1 (by decide) (x := 1) (by decide) (by decide) dL_law_828 dL_law_829 dL_law_831 dL_law_832 dL_law_833 ?_
  refine l_arg C hi hB (lv_at hl 1 rfl) (lv_at hl 5 rfl) 2 (by decide) (x := 2) (by decide) (by decide) dL_law_834 dL_law_835 dL_law_837 dL_law_838 dL_law_839 ?_
  refine l_arg C hi hB (lv_at hl 1 rfl) (lv_at hl 5 rfl) 3 (by decide) (x := 3) (by decide) (by decide) dL_law_840 dL_law_841 dL_law_843 dL_law_844 dL_law_845 ?_
  refine ka_vi (pre := (ao, aj k 1 ro1) :: wx1) (wc := wm) (post := []) (rest := []) (As := [.int (xs (i + 1)), .int (xs (i + 2)), .int (xs (i + 3))]) F hA hB hN ml_RL_94 mv_yX12_squeeze hm0 rfl rfl hl.1 rfl (Nat.le_of_ble_eq_true rfl) ⟨Nat.le_of_ble_eq_true rfl, Nat.le_of_ble_eq_true rfl⟩ ⟨by show cells + 1 + 0 ≤ 601024; omega, by show slots + 6 + 0 ≤ 7293034; omega⟩ dL_law_846 (fun r1 wm1 H2 locs2 hN2 hB => ?_)
  refine lv_istore (lv' := [(6, .int r1), (5, .int r), (0, .ref b), (1, .ref ax), (2, .ref am), (3, .ref ao), (4, .int (eI (i : Int)))]) hx hb dL_law_849 hl (by decide) rfl (fun ls hl => ?_)
  refine lv_aload_n hx hb dL_law_851 rfl (lv_at hl 4 rfl) ?_
  refine ka_vi (pre := (ao, aj k 1 ro1) :: wx1) (wc := wm1) (post := []) (rest := []) (As := []) F hA hB hN2.1 ml_RL_64 mv_yX12_thrown hN2.2.choose_spec rfl rfl hl.1 rfl (Nat.le_of_ble_eq_true rfl) ⟨Nat.le_of_ble_eq_true rfl, Nat.le_of_ble_eq_true rfl⟩ ⟨by show cells + 1 + 0 ≤ 601024; omega, by show slots + 6 + 0 ≤ 7293034; omega⟩ dL_law_852 (fun r2 wm2 H3 locs3 hq hB => ?_)
  rw [List.append_nil] at hB
  obtain ⟨hq1, hq2, hq3, hI2⟩ := hq
  refine lv_iload hx hb dL_law_855 (lv_at hl 1 rfl) ?_
  refine lv_icmp_eq (tgt := 862) hx hb dL_law_857 (by decide) (fun _ => ?_) (fun h => absurd hq1 h)
  have hend : W p l e room_1 s m #[Value.ref b] below meth c H3 locs3 (cells + 1 + 0 + 0) (slots + 6 + 0 + 0) Q (F0 m 879 ls []) := by
    refine lv_goto (tgt := 1759) hx hb dL_law_879 (by decide) ?_
    exact W.widen (by omega) (by omega) (kk ro1 wx1 wm2 H3 locs3 ls hI2 hB (lv_sub hl [2, 3, 4, 5, 6] rfl))
  refine lv_iload hx hb dL_law_862 (lv_at hl 1 rfl) ?_
  refine lv_if_ne (tgt := 879) hx hb dL_law_864 (by decide) (fun _ => hend) (fun h0 => ?_)
  refine lv_aload_n hx hb dL_law_867 rfl (lv_at hl 5 rfl) ?_
  refine lv_iconst (v := 0) hx hb dL_law_868 (by decide) ?_
  refine g_jald F hB 0 rfl (vp_in_iff.mpr (by decide +kernel)) dL_law_869 ?_
  refine lv_iload hx hb dL_law_870 (lv_at hl 0 rfl) ?_
  refine lv_i2l hx hb dL_law_872 rfl ?_
  refine W.lcmp hx hb dL_law_873 ?_
  refine lv_if_eq (tgt := 879) hx hb dL_law_874 (by decide) (fun _ => hend) (fun h => absurd (lcmp_0 (hq2 h0)) h)

set_option maxRecDepth 100000 in
set_option maxHeartbeats 4000000 in
theorem lc_13 {p : Program} {l : Launch} {e : Env} {s : State} {m : MethodId} {below : List Frame} {meth : Method} {c : Code} {D : va_G} {k : Nat → ClassId} {K : Nat → Nat} {b L : Nat} {xs : Nat → Int32} {ax am ao : Nat} {cells slots : Nat} {Q : State → Prop} {i : Nat} (C : Cx p l s m meth c D k K b L xs) (hi : i + 6 ≤ L) (hc : cells + 32 ≤ 601024 ∧ slots + 900 ≤ 7293034) (kk : Lk p l e s m below meth c D k b ax am ao (cells + 32) (slots + 900) Q i 1759) : Lk p l e s m below meth c D k b ax am ao cells slots Q i 882 := by
  intro ro wx wm H locs ls hI hB hl
  have F := C.F
  have hx := F.x
  have hb := F.b
  have hc1 := hc.1
  have hc2 := hc.2
  have hA : ∀ q : Nat, s.heap.size ≤ q → (fun q : Nat => s.heap.size ≤ q) q := fun _ h => h
  obtain ⟨fx, hx0⟩ := hI.x0
  obtain ⟨fm, hm0⟩ := hI.m0
  refine lv_aload_n hx hb dL_law_882 rfl (lv_at hl 1 rfl) ?_
  refine l_arg C hi hB (lv_at hl 0 rfl) (lv_at hl 4 rfl) 1 (by decide) (x := 1) (by decide) (by decide) dL_law_883 dL_law_884 dL_law_886 dL_law_887 dL_law_888 ?_
  refine l_arg C hi hB (lv_at hl 0 rfl) (lv_at hl 4 rfl) 2 (by decide) (x := 2) (by decide) (by decide) dL_law_889 dL_law_890 dL_law_892 dL_law_893 dL_law_894 ?_
  refine l_arg C hi hB (lv_at hl 0 rfl) (lv_at hl 4 rfl) 3 (by decide) (x := 3) (by decide) (by decide) dL_law_895 dL_law_896 dL_law_898 dL_law_899 dL_law_900 ?_
  refine kb_vi (pre := [(ao, aj k 1 ro)]) (wc := wx) (post := wm) (rest := []) (As := [.int (xs (i + 1)), .int (xs (i + 2)), .int (xs (i + 3))]) F C.E hA hB (P_span l D k K hI (xs (i + 1)) (xs (i + 2)) (xs (i + 3))) ml_RL_95 mv_yX11_span hx0 rfl rfl hl.1 rfl (by decide) ⟨Nat.le_of_ble_eq_true rfl, Nat.le_of_ble_eq_true rfl⟩ ⟨by show cells + 0 ≤ 601024; omega, by show slots + 0 ≤ 7293034; omega⟩ dL_law_901 (fun r wx1 H1 locs1 hN hB => ?_)
  replace hB : Bd D (fun q : Nat => s.heap.size ≤ q) s.heap (((ao, aj k 1 ro) :: wx1) ++ (wm ++ [])) H1 locs1 := by rw [List.append_nil]; exact hB
  refine lv_aload_n hx hb dL_law_904 rfl (lv_at hl 2 rfl) ?_
  refine l_arg C hi hB (lv_at hl 0 rfl) (lv_at hl 4 rfl) 1 (by decide) (x := 1) (by decide) (by decide) dL_law_905 dL_law_906 dL_law_908 dL_law_909 dL_law_910 ?_
  refine l_arg C hi hB (lv_at hl 0 rfl) (lv_at hl 4 rfl) 2 (by decide) (x := 2) (by decide) (by decide) dL_law_911 dL_law_912 dL_law_914 dL_law_915 dL_law_916 ?_
  refine l_arg C hi hB (lv_at hl 0 rfl) (lv_at hl 4 rfl) 3 (by decide) (x := 3) (by decide) (by decide) dL_law_917 dL_law_918 dL_law_920 dL_law_921 dL_law_922 ?_
  refine ka_vi (pre := (ao, aj k 1 ro) :: wx1) (wc := wm) (post := []) (rest := [.int r]) (As := [.int (xs (i + 1)), .int (xs (i + 2)), .int (xs (i + 3))]) F hA hB hN ml_RL_98 mv_yX12_span hm0 rfl rfl hl.1 rfl (Nat.le_of_ble_eq_true rfl) ⟨Nat.le_of_ble_eq_true rfl, Nat.le_of_ble_eq_true rfl⟩ ⟨by show cells + 0 + 0 ≤ 601024; omega, by show slots + 0 + 0 ≤ 7293034; omega⟩ dL_law_923 (fun r2 wm1 H2 locs2 hq hB => ?_)
  rw [List.append_nil] at hB
  refine lv_icmp_eq (tgt := 1759) hx hb dL_law_926 (by decide) (fun _ => ?_) (fun h => absurd hq.1.symm h)
  exact W.widen (by omega) (by omega) (kk ro wx1 wm1 H2 locs2 ls hq.2 hB hl)

set_option maxRecDepth 100000 in
set_option maxHeartbeats 4000000 in
theorem lc_14 {p : Program} {l : Launch} {e : Env} {s : State} {m : MethodId} {below : List Frame} {meth : Method} {c : Code} {D : va_G} {k : Nat → ClassId} {K : Nat → Nat} {b L : Nat} {xs : Nat → Int32} {ax am ao : Nat} {cells slots : Nat} {Q : State → Prop} {i : Nat} (C : Cx p l s m meth c D k K b L xs) (hi : i + 6 ≤ L) (hc : cells + 32 ≤ 601024 ∧ slots + 900 ≤ 7293034) (kk : Lk p l e s m below meth c D k b ax am ao (cells + 32) (slots + 900) Q i 1759) : Lk p l e s m below meth c D k b ax am ao cells slots Q i 931 := by
  intro ro wx wm H locs ls hI hB hl
  have F := C.F
  have hx := F.x
  have hb := F.b
  have hc1 := hc.1
  have hc2 := hc.2
  have hA : ∀ q : Nat, s.heap.size ≤ q → (fun q : Nat => s.heap.size ≤ q) q := fun _ h => h
  obtain ⟨fx, hx0⟩ := hI.x0
  obtain ⟨fm, hm0⟩ := hI.m0
  refine lv_aload_n hx hb dL_law_931 rfl (lv_at hl 1 rfl) ?_
  refine l_arg C hi hB (lv_at hl 0 rfl) (lv_at hl 4 rfl) 1 (by decide) (x := 1) (by decide) (by decide) dL_law_932 dL_law_933 dL_law_935 dL_law_936 dL_law_937 ?_
  refine l_arg C hi hB (lv_at hl 0 rfl) (lv_at hl 4 rfl) 2 (by decide) (x := 2) (by decide) (by decide) dL_law_938 dL_law_939 dL_law_941 dL_law_942 dL_law_943 ?_
  refine kb_vi (pre := [(ao, aj k 1 ro)]) (wc := wx) (post := wm) (rest := []) (As := [.int (xs (i + 1)), .int (xs (i + 2))]) F C.E hA hB (P_loop l D k K hI (xs (i + 1)) (xs (i + 2))) ml_RL_99 mv_yX11_loop hx0 rfl rfl hl.1 rfl (by decide) ⟨Nat.le_of_ble_eq_true rfl, Nat.le_of_ble_eq_true rfl⟩ ⟨by show cells + 0 ≤ 601024; omega, by show slots + 0 ≤ 7293034; omega⟩ dL_law_944 (fun r wx1 H1 locs1 hN hB => ?_)
  replace hB : Bd D (fun q : Nat => s.heap.size ≤ q) s.heap (((ao, aj k 1 ro) :: wx1) ++ (wm ++ [])) H1 locs1 := by rw [List.append_nil]; exact hB
  refine lv_aload_n hx hb dL_law_947 rfl (lv_at hl 2 rfl) ?_
  refine l_arg C hi hB (lv_at hl 0 rfl) (lv_at hl 4 rfl) 1 (by decide) (x := 1) (by decide) (by decide) dL_law_948 dL_law_949 dL_law_951 dL_law_952 dL_law_953 ?_
  refine l_arg C hi hB (lv_at hl 0 rfl) (lv_at hl 4 rfl) 2 (by decide) (x := 2) (by decide) (by decide) dL_law_954 dL_law_955 dL_law_957 dL_law_958 dL_law_959 ?_
  refine ka_vi (pre := (ao, aj k 1 ro) :: wx1) (wc := wm) (post := []) (rest := [.int r]) (As := [.int (xs (i + 1)), .int (xs (i + 2))]) F hA hB hN ml_RL_102 mv_yX12_loop hm0 rfl rfl hl.1 rfl (Nat.le_of_ble_eq_true rfl) ⟨Nat.le_of_ble_eq_true rfl, Nat.le_of_ble_eq_true rfl⟩ ⟨by show cells + 0 + 0 ≤ 601024; omega, by show slots + 0 + 0 ≤ 7293034; omega⟩ dL_law_960 (fun r2 wm1 H2 locs2 hq hB => ?_)
  rw [List.append_nil] at hB
  refine lv_icmp_eq (tgt := 1759) hx hb dL_law_963 (by decide) (fun _ => ?_) (fun h => absurd hq.1.symm h)
  exact W.widen (by omega) (by omega) (kk ro wx1 wm1 H2 locs2 ls hq.2 hB hl)

set_option maxRecDepth 100000 in
set_option maxHeartbeats 4000000 in
theorem lc_15 {p : Program} {l : Launch} {e : Env} {s : State} {m : MethodId} {below : List Frame} {meth : Method} {c : Code} {D : va_G} {k : Nat → ClassId} {K : Nat → Nat} {b L : Nat} {xs : Nat → Int32} {ax am ao : Nat} {cells slots : Nat} {Q : State → Prop} {i : Nat} (C : Cx p l s m meth c D k K b L xs) (hi : i + 6 ≤ L) (hc : cells + 32 ≤ 601024 ∧ slots + 900 ≤ 7293034) (kk : Lk p l e s m below meth c D k b ax am ao (cells + 32) (slots + 900) Q i 1759) : Lk p l e s m below meth c D k b ax am ao cells slots Q i 968 := by
  intro ro wx wm H locs ls hI hB hl
  have F := C.F
  have hx := F.x
  have hb := F.b
  have hc1 := hc.1
  have hc2 := hc.2
  have hA : ∀ q : Nat, s.heap.size ≤ q → (fun q : Nat => s.heap.size ≤ q) q := fun _ h => h
  obtain ⟨fx, hx0⟩ := hI.x0
  obtain ⟨fm, hm0⟩ := hI.m0
  refine lv_aload_n hx hb dL_law_968 rfl (lv_at hl 1 rfl) ?_
  refine l_arg C hi hB (lv_at hl 0 rfl) (lv_at hl 4 rfl) 1 (by decide) (x := 1) (by decide) (by decide) dL_law_969 dL_law_970 dL_law_972 dL_law_973 dL_law_974 ?_
  refine l_arg C hi hB (lv_at hl 0 rfl) (lv_at hl 4 rfl) 2 (by decide) (x := 2) (by decide) (by decide) dL_law_975 dL_law_976 dL_law_978 dL_law_979 dL_law_980 ?_
  refine l_arg C hi hB (lv_at hl 0 rfl) (lv_at hl 4 rfl) 3 (by decide) (x := 3) (by decide) (by decide) dL_law_981 dL_law_982 dL_law_984 dL_law_985 dL_law_986 ?_
  refine kb_vi (pre := [(ao, aj k 1 ro)]) (wc := wx) (post := wm) (rest := []) (As := [.int (xs (i + 1)), .int (xs (i + 2)), .int (xs (i + 3))]) F C.E hA hB (P_climb l D k K hI (xs (i + 1)) (xs (i + 2)) (xs (i + 3))) ml_RL_103 mv_yX11_climb hx0 rfl rfl hl.1 rfl (by decide) ⟨Nat.le_of_ble_eq_true rfl, Nat.le_of_ble_eq_true rfl⟩ ⟨by show cells + 0 ≤ 601024; omega, by show slots + 0 ≤ 7293034; omega⟩ dL_law_987 (fun r wx1 H1 locs1 hN hB => ?_)
  replace hB : Bd D (fun q : Nat => s.heap.size ≤ q) s.heap (((ao, aj k 1 ro) :: wx1) ++ (wm ++ [])) H1 locs1 := by rw [List.append_nil]; exact hB
  refine lv_aload_n hx hb dL_law_990 rfl (lv_at hl 2 rfl) ?_
  refine l_arg C hi hB (lv_at hl 0 rfl) (lv_at hl 4 rfl) 1 (by decide) (x := 1) (by decide) (by decide) dL_law_991 dL_law_992 dL_law_994 dL_law_995 dL_law_996 ?_
  refine l_arg C hi hB (lv_at hl 0 rfl) (lv_at hl 4 rfl) 2 (by decide) (x := 2) (by decide) (by decide) dL_law_997 dL_law_998 dL_law_1000 dL_law_1001 dL_law_1002 ?_
  refine l_arg C hi hB (lv_at hl 0 rfl) (lv_at hl 4 rfl) 3 (by decide) (x := 3) (by decide) (by decide) dL_law_1003 dL_law_1004 dL_law_1006 dL_law_1007 dL_law_1008 ?_
  refine ka_vi (pre := (ao, aj k 1 ro) :: wx1) (wc := wm) (post := []) (rest := [.int r]) (As := [.int (xs (i + 1)), .int (xs (i + 2)), .int (xs (i + 3))]) F hA hB hN ml_RL_106 mv_yX12_climb hm0 rfl rfl hl.1 rfl (Nat.le_of_ble_eq_true rfl) ⟨Nat.le_of_ble_eq_true rfl, Nat.le_of_ble_eq_true rfl⟩ ⟨by show cells + 0 + 0 ≤ 601024; omega, by show slots + 0 + 0 ≤ 7293034; omega⟩ dL_law_1009 (fun r2 wm1 H2 locs2 hq hB => ?_)
  rw [List.append_nil] at hB
  refine lv_icmp_eq (tgt := 1759) hx hb dL_law_1012 (by decide) (fun _ => ?_) (fun h => absurd hq.1.symm h)
  exact W.widen (by omega) (by omega) (kk ro wx1 wm1 H2 locs2 ls hq.2 hB hl)

set_option maxRecDepth 100000 in
set_option maxHeartbeats 4000000 in
theorem lc_16 {p : Program} {l : Launch} {e : Env} {s : State} {m : MethodId} {below : List Frame} {meth : Method} {c : Code} {D : va_G} {k : Nat → ClassId} {K : Nat → Nat} {b L : Nat} {xs : Nat → Int32} {ax am ao : Nat} {cells slots : Nat} {Q : State → Prop} {i : Nat} (C : Cx p l s m meth c D k K b L xs) (hi : i + 6 ≤ L) (hc : cells + 32 ≤ 601024 ∧ slots + 900 ≤ 7293034) (kk : Lk p l e s m below meth c D k b ax am ao (cells + 32) (slots + 900) Q i 1759) : Lk p l e s m below meth c D k b ax am ao cells slots Q i 1017 := by
  intro ro wx wm H locs ls hI hB hl
  have F := C.F
  have hx := F.x
  have hb := F.b
  have hc1 := hc.1
  have hc2 := hc.2
  have hA : ∀ q : Nat, s.heap.size ≤ q → (fun q : Nat => s.heap.size ≤ q) q := fun _ h => h
  obtain ⟨fx, hx0⟩ := hI.x0
  obtain ⟨fm, hm0⟩ := hI.m0
  refine lv_aload_n hx hb dL_law_1017 rfl (lv_at hl 1 rfl) ?_
  refine l_arg C hi hB (lv_at hl 0 rfl) (lv_at hl 4 rfl) 1 (by decide) (x := 1) (by decide) (by decide) dL_law_1018 dL_law_1019 dL_law_1021 dL_law_1022 dL_law_1023 ?_
  refine l_arg C hi hB (lv_at hl 0 rfl) (lv_at hl 4 rfl) 2 (by decide) (x := 2) (by decide) (by decide) dL_law_1024 dL_law_1025 dL_law_1027 dL_law_1028 dL_law_1029 ?_
  refine kb_vi (pre := [(ao, aj k 1 ro)]) (wc := wx) (post := wm) (rest := []) (As := [.int (xs (i + 1)), .int (xs (i + 2))]) F C.E hA hB (P_needed l D k K hI (xs (i + 1)) (xs (i + 2))) ml_RL_107 mv_yX11_needed hx0 rfl rfl hl.1 rfl (by decide) ⟨Nat.le_of_ble_eq_true rfl, Nat.le_of_ble_eq_true rfl⟩ ⟨by show cells + 0 ≤ 601024; omega, by show slots + 0 ≤ 7293034; omega⟩ dL_law_1030 (fun r wx1 H1 locs1 hN hB => ?_)
  replace hB : Bd D (fun q : Nat => s.heap.size ≤ q) s.heap (((ao, aj k 1 ro) :: wx1) ++ (wm ++ [])) H1 locs1 := by rw [List.append_nil]; exact hB
  refine lv_aload_n hx hb dL_law_1033 rfl (lv_at hl 2 rfl) ?_
  refine l_arg C hi hB (lv_at hl 0 rfl) (lv_at hl 4 rfl) 1 (by decide) (x := 1) (by decide) (by decide) dL_law_1034 dL_law_1035 dL_law_1037 dL_law_1038 dL_law_1039 ?_
  refine l_arg C hi hB (lv_at hl 0 rfl) (lv_at hl 4 rfl) 2 (by decide) (x := 2) (by decide) (by decide) dL_law_1040 dL_law_1041 dL_law_1043 dL_law_1044 dL_law_1045 ?_
  refine ka_vi (pre := (ao, aj k 1 ro) :: wx1) (wc := wm) (post := []) (rest := [.int r]) (As := [.int (xs (i + 1)), .int (xs (i + 2))]) F hA hB hN ml_RL_110 mv_yX12_needed hm0 rfl rfl hl.1 rfl (Nat.le_of_ble_eq_true rfl) ⟨Nat.le_of_ble_eq_true rfl, Nat.le_of_ble_eq_true rfl⟩ ⟨by show cells + 0 + 0 ≤ 601024; omega, by show slots + 0 + 0 ≤ 7293034; omega⟩ dL_law_1046 (fun r2 wm1 H2 locs2 hq hB => ?_)
  rw [List.append_nil] at hB
  refine lv_icmp_eq (tgt := 1759) hx hb dL_law_1049 (by decide) (fun _ => ?_) (fun h => absurd hq.1.symm h)
  exact W.widen (by omega) (by omega) (kk ro wx1 wm1 H2 locs2 ls hq.2 hB hl)

set_option maxRecDepth 100000 in
set_option maxHeartbeats 4000000 in
theorem lc_17 {p : Program} {l : Launch} {e : Env} {s : State} {m : MethodId} {below : List Frame} {meth : Method} {c : Code} {D : va_G} {k : Nat → ClassId} {K : Nat → Nat} {b L : Nat} {xs : Nat → Int32} {ax am ao : Nat} {cells slots : Nat} {Q : State → Prop} {i : Nat} (C : Cx p l s m meth c D k K b L xs) (hi : i + 6 ≤ L) (hc : cells + 32 ≤ 601024 ∧ slots + 900 ≤ 7293034) (kk : Lk p l e s m below meth c D k b ax am ao (cells + 32) (slots + 900) Q i 1759) : Lk p l e s m below meth c D k b ax am ao cells slots Q i 1054 := by
  intro ro wx wm H locs ls hI hB hl
  have F := C.F
  have hx := F.x
  have hb := F.b
  have hc1 := hc.1
  have hc2 := hc.2
  have hA : ∀ q : Nat, s.heap.size ≤ q → (fun q : Nat => s.heap.size ≤ q) q := fun _ h => h
  obtain ⟨fx, hx0⟩ := hI.x0
  obtain ⟨fm, hm0⟩ := hI.m0
  refine lv_aload_n hx hb dL_law_1054 rfl (lv_at hl 1 rfl) ?_
  refine l_arg C hi hB (lv_at hl 0 rfl) (lv_at hl 4 rfl) 1 (by decide) (x := 1) (by decide) (by decide) dL_law_1055 dL_law_1056 dL_law_1058 dL_law_1059 dL_law_1060 ?_
  refine l_arg C hi hB (lv_at hl 0 rfl) (lv_at hl 4 rfl) 2 (by decide) (x := 2) (by decide) (by decide) dL_law_1061 dL_law_1062 dL_law_1064 dL_law_1065 dL_law_1066 ?_
  refine l_arg C hi hB (lv_at hl 0 rfl) (lv_at hl 4 rfl) 3 (by decide) (x := 3) (by decide) (by decide) dL_law_1067 dL_law_1068 dL_law_1070 dL_law_1071 dL_law_1072 ?_
  refine kb_vi (pre := [(ao, aj k 1 ro)]) (wc := wx) (post := wm) (rest := []) (As := [.int (xs (i + 1)), .int (xs (i + 2)), .int (xs (i + 3))]) F C.E hA hB (P_sanded l D k K hI (xs (i + 1)) (xs (i + 2)) (xs (i + 3))) ml_RL_111 mv_yX11_sanded hx0 rfl rfl hl.1 rfl (by decide) ⟨Nat.le_of_ble_eq_true rfl, Nat.le_of_ble_eq_true rfl⟩ ⟨by show cells + 0 ≤ 601024; omega, by show slots + 0 ≤ 7293034; omega⟩ dL_law_1073 (fun r wx1 H1 locs1 hN hB => ?_)
  replace hB : Bd D (fun q : Nat => s.heap.size ≤ q) s.heap (((ao, aj k 1 ro) :: wx1) ++ (wm ++ [])) H1 locs1 := by rw [List.append_nil]; exact hB
  refine lv_aload_n hx hb dL_law_1076 rfl (lv_at hl 2 rfl) ?_
  refine l_arg C hi hB (lv_at hl 0 rfl) (lv_at hl 4 rfl) 1 (by decide) (x := 1) (by decide) (by decide) dL_law_1077 dL_law_1078 dL_law_1080 dL_law_1081 dL_law_1082 ?_
  refine l_arg C hi hB (lv_at hl 0 rfl) (lv_at hl 4 rfl) 2 (by decide) (x := 2) (by decide) (by decide) dL_law_1083 dL_law_1084 dL_law_1086 dL_law_1087 dL_law_1088 ?_
  refine l_arg C hi hB (lv_at hl 0 rfl) (lv_at hl 4 rfl) 3 (by decide) (x := 3) (by decide) (by decide) dL_law_1089 dL_law_1090 dL_law_1092 dL_law_1093 dL_law_1094 ?_
  refine ka_vi (pre := (ao, aj k 1 ro) :: wx1) (wc := wm) (post := []) (rest := [.int r]) (As := [.int (xs (i + 1)), .int (xs (i + 2)), .int (xs (i + 3))]) F hA hB hN ml_RL_114 mv_yX12_sanded hm0 rfl rfl hl.1 rfl (Nat.le_of_ble_eq_true rfl) ⟨Nat.le_of_ble_eq_true rfl, Nat.le_of_ble_eq_true rfl⟩ ⟨by show cells + 0 + 0 ≤ 601024; omega, by show slots + 0 + 0 ≤ 7293034; omega⟩ dL_law_1095 (fun r2 wm1 H2 locs2 hq hB => ?_)
  rw [List.append_nil] at hB
  refine lv_icmp_eq (tgt := 1759) hx hb dL_law_1098 (by decide) (fun _ => ?_) (fun h => absurd hq.1.symm h)
  exact W.widen (by omega) (by omega) (kk ro wx1 wm1 H2 locs2 ls hq.2 hB hl)

set_option maxRecDepth 100000 in
set_option maxHeartbeats 4000000 in
theorem lc_18 {p : Program} {l : Launch} {e : Env} {s : State} {m : MethodId} {below : List Frame} {meth : Method} {c : Code} {D : va_G} {k : Nat → ClassId} {K : Nat → Nat} {b L : Nat} {xs : Nat → Int32} {ax am ao : Nat} {cells slots : Nat} {Q : State → Prop} {i : Nat} (C : Cx p l s m meth c D k K b L xs) (hi : i + 6 ≤ L) (hc : cells + 32 ≤ 601024 ∧ slots + 900 ≤ 7293034) (kk : Lk p l e s m below meth c D k b ax am ao (cells + 32) (slots + 900) Q i 1759) : Lk p l e s m below meth c D k b ax am ao cells slots Q i 1103 := by
  intro ro wx wm H locs ls hI hB hl
  have F := C.F
  have hx := F.x
  have hb := F.b
  have hc1 := hc.1
  have hc2 := hc.2
  have hA : ∀ q : Nat, s.heap.size ≤ q → (fun q : Nat => s.heap.size ≤ q) q := fun _ h => h
  obtain ⟨fx, hx0⟩ := hI.x0
  obtain ⟨fm, hm0⟩ := hI.m0
  refine lv_aload_n hx hb dL_law_1103 rfl (lv_at hl 1 rfl) ?_
  refine l_arg C hi hB (lv_at hl 0 rfl) (lv_at hl 4 rfl) 1 (by decide) (x := 1) (by decide) (by decide) dL_law_1104 dL_law_1105 dL_law_1107 dL_law_1108 dL_law_1109 ?_
  refine l_arg C hi hB (lv_at hl 0 rfl) (lv_at hl 4 rfl) 2 (by decide) (x := 2) (by decide) (by decide) dL_law_1110 dL_law_1111 dL_law_1113 dL_law_1114 dL_law_1115 ?_
  refine l_arg C hi hB (lv_at hl 0 rfl) (lv_at hl 4 rfl) 3 (by decide) (x := 3) (by decide) (by decide) dL_law_1116 dL_law_1117 dL_law_1119 dL_law_1120 dL_law_1121 ?_
  refine l_arg C hi hB (lv_at hl 0 rfl) (lv_at hl 4 rfl) 4 (by decide) (x := 4) (by decide) (by decide) dL_law_1122 dL_law_1123 dL_law_1125 dL_law_1126 dL_law_1127 ?_
  refine kb_vi (pre := [(ao, aj k 1 ro)]) (wc := wx) (post := wm) (rest := []) (As := [.int (xs (i + 1)), .int (xs (i + 2)), .int (xs (i + 3)), .int (xs (i + 4))]) F C.E hA hB (P_helped l D k K hI (xs (i + 1)) (xs (i + 2)) (xs (i + 3)) (xs (i + 4))) ml_RL_115 mv_yX11_helped hx0 rfl rfl hl.1 rfl (by decide) ⟨Nat.le_of_ble_eq_true rfl, Nat.le_of_ble_eq_true rfl⟩ ⟨by show cells + 0 ≤ 601024; omega, by show slots + 0 ≤ 7293034; omega⟩ dL_law_1128 (fun r wx1 H1 locs1 hN hB => ?_)
  replace hB : Bd D (fun q : Nat => s.heap.size ≤ q) s.heap (((ao, aj k 1 ro) :: wx1) ++ (wm ++ [])) H1 locs1 := by rw [List.append_nil]; exact hB
  refine lv_aload_n hx hb dL_law_1131 rfl (lv_at hl 2 rfl) ?_
  refine l_arg C hi hB (lv_at hl 0 rfl) (lv_at hl 4 rfl) 1 (by decide) (x := 1) (by decide) (by decide) dL_law_1132 dL_law_1133 dL_law_1135 dL_law_1136 dL_law_1137 ?_
  refine l_arg C hi hB (lv_at hl 0 rfl) (lv_at hl 4 rfl) 2 (by decide) (x := 2) (by decide) (by decide) dL_law_1138 dL_law_1139 dL_law_1141 dL_law_1142 dL_law_1143 ?_
  refine l_arg C hi hB (lv_at hl 0 rfl) (lv_at hl 4 rfl) 3 (by decide) (x := 3) (by decide) (by decide) dL_law_1144 dL_law_1145 dL_law_1147 dL_law_1148 dL_law_1149 ?_
  refine l_arg C hi hB (lv_at hl 0 rfl) (lv_at hl 4 rfl) 4 (by decide) (x := 4) (by decide) (by decide) dL_law_1150 dL_law_1151 dL_law_1153 dL_law_1154 dL_law_1155 ?_
  refine ka_vi (pre := (ao, aj k 1 ro) :: wx1) (wc := wm) (post := []) (rest := [.int r]) (As := [.int (xs (i + 1)), .int (xs (i + 2)), .int (xs (i + 3)), .int (xs (i + 4))]) F hA hB hN ml_RL_119 mv_yX12_helped hm0 rfl rfl hl.1 rfl (Nat.le_of_ble_eq_true rfl) ⟨Nat.le_of_ble_eq_true rfl, Nat.le_of_ble_eq_true rfl⟩ ⟨by show cells + 0 + 0 ≤ 601024; omega, by show slots + 0 + 0 ≤ 7293034; omega⟩ dL_law_1156 (fun r2 wm1 H2 locs2 hq hB => ?_)
  rw [List.append_nil] at hB
  refine lv_icmp_eq (tgt := 1759) hx hb dL_law_1159 (by decide) (fun _ => ?_) (fun h => absurd hq.1.symm h)
  exact W.widen (by omega) (by omega) (kk ro wx1 wm1 H2 locs2 ls hq.2 hB hl)

set_option maxRecDepth 100000 in
set_option maxHeartbeats 4000000 in
theorem lc_19 {p : Program} {l : Launch} {e : Env} {s : State} {m : MethodId} {below : List Frame} {meth : Method} {c : Code} {D : va_G} {k : Nat → ClassId} {K : Nat → Nat} {b L : Nat} {xs : Nat → Int32} {ax am ao : Nat} {cells slots : Nat} {Q : State → Prop} {i : Nat} (C : Cx p l s m meth c D k K b L xs) (hi : i + 6 ≤ L) (hc : cells + 32 ≤ 601024 ∧ slots + 900 ≤ 7293034) (kk : Lk p l e s m below meth c D k b ax am ao (cells + 32) (slots + 900) Q i 1759) : Lk p l e s m below meth c D k b ax am ao cells slots Q i 1164 := by
  intro ro wx wm H locs ls hI hB hl
  have F := C.F
  have hx := F.x
  have hb := F.b
  have hc1 := hc.1
  have hc2 := hc.2
  have hA : ∀ q : Nat, s.heap.size ≤ q → (fun q : Nat => s.heap.size ≤ q) q := fun _ h => h
  obtain ⟨fx, hx0⟩ := hI.x0
  obtain ⟨fm, hm0⟩ := hI.m0
  refine lv_aload_n hx hb dL_law_1164 rfl (lv_at hl 1 rfl) ?_
  refine l_arg C hi hB (lv_at hl 0 rfl) (lv_at hl 4 rfl) 1 (by decide) (x := 1) (by decide) (by decide) dL_law_1165 dL_law_1166 dL_law_1168 dL_law_1169 dL_law_1170 ?_
  refine kb_vi (pre := [(ao, aj k 1 ro)]) (wc := wx) (post := wm) (rest := []) (As := [.int (xs (i + 1))]) F C.E hA hB (P_lives l D k K hI (xs (i + 1))) ml_RL_120 mv_yX11_lives hx0 rfl rfl hl.1 rfl (by decide) ⟨Nat.le_of_ble_eq_true rfl, Nat.le_of_ble_eq_true rfl⟩ ⟨by show cells + 0 ≤ 601024; omega, by show slots + 0 ≤ 7293034; omega⟩ dL_law_1171 (fun r wx1 H1 locs1 hN hB => ?_)
  replace hB : Bd D (fun q : Nat => s.heap.size ≤ q) s.heap (((ao, aj k 1 ro) :: wx1) ++ (wm ++ [])) H1 locs1 := by rw [List.append_nil]; exact hB
  refine lv_aload_n hx hb dL_law_1174 rfl (lv_at hl 2 rfl) ?_
  refine l_arg C hi hB (lv_at hl 0 rfl) (lv_at hl 4 rfl) 1 (by decide) (x := 1) (by decide) (by decide) dL_law_1175 dL_law_1176 dL_law_1178 dL_law_1179 dL_law_1180 ?_
  refine ka_vi (pre := (ao, aj k 1 ro) :: wx1) (wc := wm) (post := []) (rest := [.int r]) (As := [.int (xs (i + 1))]) F hA hB hN ml_RL_123 mv_yX12_lives hm0 rfl rfl hl.1 rfl (Nat.le_of_ble_eq_true rfl) ⟨Nat.le_of_ble_eq_true rfl, Nat.le_of_ble_eq_true rfl⟩ ⟨by show cells + 0 + 0 ≤ 601024; omega, by show slots + 0 + 0 ≤ 7293034; omega⟩ dL_law_1181 (fun r2 wm1 H2 locs2 hq hB => ?_)
  rw [List.append_nil] at hB
  refine lv_icmp_eq (tgt := 1759) hx hb dL_law_1184 (by decide) (fun _ => ?_) (fun h => absurd hq.1.symm h)
  exact W.widen (by omega) (by omega) (kk ro wx1 wm1 H2 locs2 ls hq.2 hB hl)
