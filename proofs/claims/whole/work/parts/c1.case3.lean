set_option maxRecDepth 100000 in
set_option maxHeartbeats 4000000 in
theorem lc_30 {p : Program} {l : Launch} {e : Env} {s : State} {m : MethodId} {below : List Frame} {meth : Method} {c : Code} {D : va_G} {k : Nat → ClassId} {K : Nat → Nat} {b L : Nat} {xs : Nat → Int32} {ax am ao : Nat} {cells slots : Nat} {Q : State → Prop} {i : Nat} (C : Cx p l s m meth c D k K b L xs) (hi : i + 6 ≤ L) (hc : cells + 32 ≤ 601024 ∧ slots + 900 ≤ 7293034) (kk : Lk p l e s m below meth c D k b ax am ao (cells + 32) (slots + 900) Q i 1759) : Lk p l e s m below meth c D k b ax am ao cells slots Q i 1547 := by
  intro ro wx wm H locs ls hI hB hl
  have F := C.F
  have hx := F.x
  have hb := F.b
  have hc1 := hc.1
  have hc2 := hc.2
  have hA : ∀ q : Nat, s.heap.size ≤ q → (fun q : Nat => s.heap.size ≤ q) q := fun _ h => h
  obtain ⟨fx, hx0⟩ := hI.x0
  obtain ⟨fm, hm0⟩ := hI.m0
  refine lv_aload_n hx hb dL_law_1547 rfl (lv_at hl 1 rfl) ?_
  refine kb_vi (pre := [(ao, aj k 1 ro)]) (wc := wx) (post := wm) (rest := []) (As := []) F C.E hA hB (P_plan l D k K hI ) ml_RL_164 mv_yX11_plan hx0 rfl rfl hl.1 rfl (by decide) ⟨Nat.le_of_ble_eq_true rfl, Nat.le_of_ble_eq_true rfl⟩ ⟨by show cells + 0 ≤ 601024; omega, by show slots + 0 ≤ 7293034; omega⟩ dL_law_1548 (fun r wx1 H1 locs1 hN hB => ?_)
  replace hB : Bd D (fun q : Nat => s.heap.size ≤ q) s.heap (((ao, aj k 1 ro) :: wx1) ++ (wm ++ [])) H1 locs1 := by rw [List.append_nil]; exact hB
  refine lv_aload_n hx hb dL_law_1551 rfl (lv_at hl 2 rfl) ?_
  refine ka_vi (pre := (ao, aj k 1 ro) :: wx1) (wc := wm) (post := []) (rest := [.int r]) (As := []) F hA hB hN ml_RL_167 mv_yX12_plan hm0 rfl rfl hl.1 rfl (Nat.le_of_ble_eq_true rfl) ⟨Nat.le_of_ble_eq_true rfl, Nat.le_of_ble_eq_true rfl⟩ ⟨by show cells + 0 + 0 ≤ 601024; omega, by show slots + 0 + 0 ≤ 7293034; omega⟩ dL_law_1552 (fun r2 wm1 H2 locs2 hq hB => ?_)
  rw [List.append_nil] at hB
  refine lv_icmp_eq (tgt := 1759) hx hb dL_law_1555 (by decide) (fun _ => ?_) (fun h => absurd hq.1.symm h)
  exact W.widen (by omega) (by omega) (kk ro wx1 wm1 H2 locs2 ls hq.2 hB hl)

set_option maxRecDepth 100000 in
set_option maxHeartbeats 4000000 in
theorem lc_31 {p : Program} {l : Launch} {e : Env} {s : State} {m : MethodId} {below : List Frame} {meth : Method} {c : Code} {D : va_G} {k : Nat → ClassId} {K : Nat → Nat} {b L : Nat} {xs : Nat → Int32} {ax am ao : Nat} {cells slots : Nat} {Q : State → Prop} {i : Nat} (C : Cx p l s m meth c D k K b L xs) (hi : i + 6 ≤ L) (hc : cells + 32 ≤ 601024 ∧ slots + 900 ≤ 7293034) (kk : Lk p l e s m below meth c D k b ax am ao (cells + 32) (slots + 900) Q i 1759) : Lk p l e s m below meth c D k b ax am ao cells slots Q i 1560 := by
  intro ro wx wm H locs ls hI hB hl
  have F := C.F
  have hx := F.x
  have hb := F.b
  have hc1 := hc.1
  have hc2 := hc.2
  have hA : ∀ q : Nat, s.heap.size ≤ q → (fun q : Nat => s.heap.size ≤ q) q := fun _ h => h
  obtain ⟨fx, hx0⟩ := hI.x0
  obtain ⟨fm, hm0⟩ := hI.m0
  refine lv_aload_n hx hb dL_law_1560 rfl (lv_at hl 1 rfl) ?_
  refine l_arg C hi hB (lv_at hl 0 rfl) (lv_at hl 4 rfl) 1 (by decide) (x := 1) (by decide) (by decide) dL_law_1561 dL_law_1562 dL_law_1564 dL_law_1565 dL_law_1566 ?_
  refine kb_vi (pre := [(ao, aj k 1 ro)]) (wc := wx) (post := wm) (rest := []) (As := [.int (xs (i + 1))]) F C.E hA hB (P_judge l D k K hI (xs (i + 1))) ml_RL_168 mv_yX11_judge hx0 rfl rfl hl.1 rfl (by decide) ⟨Nat.le_of_ble_eq_true rfl, Nat.le_of_ble_eq_true rfl⟩ ⟨by show cells + 0 ≤ 601024; omega, by show slots + 0 ≤ 7293034; omega⟩ dL_law_1567 (fun r wx1 H1 locs1 hN hB => ?_)
  replace hB : Bd D (fun q : Nat => s.heap.size ≤ q) s.heap (((ao, aj k 1 ro) :: wx1) ++ (wm ++ [])) H1 locs1 := by rw [List.append_nil]; exact hB
  refine lv_aload_n hx hb dL_law_1570 rfl (lv_at hl 2 rfl) ?_
  refine l_arg C hi hB (lv_at hl 0 rfl) (lv_at hl 4 rfl) 1 (by decide) (x := 1) (by decide) (by decide) dL_law_1571 dL_law_1572 dL_law_1574 dL_law_1575 dL_law_1576 ?_
  refine ka_vi (pre := (ao, aj k 1 ro) :: wx1) (wc := wm) (post := []) (rest := [.int r]) (As := [.int (xs (i + 1))]) F hA hB hN ml_RL_171 mv_yX12_judge hm0 rfl rfl hl.1 rfl (Nat.le_of_ble_eq_true rfl) ⟨Nat.le_of_ble_eq_true rfl, Nat.le_of_ble_eq_true rfl⟩ ⟨by show cells + 0 + 0 ≤ 601024; omega, by show slots + 0 + 0 ≤ 7293034; omega⟩ dL_law_1577 (fun r2 wm1 H2 locs2 hq hB => ?_)
  rw [List.append_nil] at hB
  refine lv_icmp_eq (tgt := 1759) hx hb dL_law_1580 (by decide) (fun _ => ?_) (fun h => absurd hq.1.symm h)
  exact W.widen (by omega) (by omega) (kk ro wx1 wm1 H2 locs2 ls hq.2 hB hl)

set_option maxRecDepth 100000 in
set_option maxHeartbeats 4000000 in
theorem lc_32 {p : Program} {l : Launch} {e : Env} {s : State} {m : MethodId} {below : List Frame} {meth : Method} {c : Code} {D : va_G} {k : Nat → ClassId} {K : Nat → Nat} {b L : Nat} {xs : Nat → Int32} {ax am ao : Nat} {cells slots : Nat} {Q : State → Prop} {i : Nat} (C : Cx p l s m meth c D k K b L xs) (hi : i + 6 ≤ L) (hc : cells + 32 ≤ 601024 ∧ slots + 900 ≤ 7293034) (kk : Lk p l e s m below meth c D k b ax am ao (cells + 32) (slots + 900) Q i 1759) : Lk p l e s m below meth c D k b ax am ao cells slots Q i 1585 := by
  intro ro wx wm H locs ls hI hB hl
  have F := C.F
  have hx := F.x
  have hb := F.b
  have hc1 := hc.1
  have hc2 := hc.2
  have hA : ∀ q : Nat, s.heap.size ≤ q → (fun q : Nat => s.heap.size ≤ q) q := fun _ h => h
  obtain ⟨fx, hx0⟩ := hI.x0
  obtain ⟨fm, hm0⟩ := hI.m0
  refine lv_aload_n hx hb dL_law_1585 rfl (lv_at hl 1 rfl) ?_
  refine l_arg C hi hB (lv_at hl 0 rfl) (lv_at hl 4 rfl) 1 (by decide) (x := 1) (by decide) (by decide) dL_law_1586 dL_law_1587 dL_law_1589 dL_law_1590 dL_law_1591 ?_
  refine kb_vi (pre := [(ao, aj k 1 ro)]) (wc := wx) (post := wm) (rest := []) (As := [.int (xs (i + 1))]) F C.E hA hB (P_judged l D k K hI (xs (i + 1))) ml_RL_172 mv_yX11_judged hx0 rfl rfl hl.1 rfl (by decide) ⟨Nat.le_of_ble_eq_true rfl, Nat.le_of_ble_eq_true rfl⟩ ⟨by show cells + 0 ≤ 601024; omega, by show slots + 0 ≤ 7293034; omega⟩ dL_law_1592 (fun r wx1 H1 locs1 hN hB => ?_)
  replace hB : Bd D (fun q : Nat => s.heap.size ≤ q) s.heap (((ao, aj k 1 ro) :: wx1) ++ (wm ++ [])) H1 locs1 := by rw [List.append_nil]; exact hB
  refine lv_aload_n hx hb dL_law_1595 rfl (lv_at hl 2 rfl) ?_
  refine l_arg C hi hB (lv_at hl 0 rfl) (lv_at hl 4 rfl) 1 (by decide) (x := 1) (by decide) (by decide) dL_law_1596 dL_law_1597 dL_law_1599 dL_law_1600 dL_law_1601 ?_
  refine ka_vi (pre := (ao, aj k 1 ro) :: wx1) (wc := wm) (post := []) (rest := [.int r]) (As := [.int (xs (i + 1))]) F hA hB hN ml_RL_175 mv_yX12_judged hm0 rfl rfl hl.1 rfl (Nat.le_of_ble_eq_true rfl) ⟨Nat.le_of_ble_eq_true rfl, Nat.le_of_ble_eq_true rfl⟩ ⟨by show cells + 0 + 0 ≤ 601024; omega, by show slots + 0 + 0 ≤ 7293034; omega⟩ dL_law_1602 (fun r2 wm1 H2 locs2 hq hB => ?_)
  rw [List.append_nil] at hB
  refine lv_icmp_eq (tgt := 1759) hx hb dL_law_1605 (by decide) (fun _ => ?_) (fun h => absurd hq.1.symm h)
  exact W.widen (by omega) (by omega) (kk ro wx1 wm1 H2 locs2 ls hq.2 hB hl)

set_option maxRecDepth 100000 in
set_option maxHeartbeats 4000000 in
theorem lc_33 {p : Program} {l : Launch} {e : Env} {s : State} {m : MethodId} {below : List Frame} {meth : Method} {c : Code} {D : va_G} {k : Nat → ClassId} {K : Nat → Nat} {b L : Nat} {xs : Nat → Int32} {ax am ao : Nat} {cells slots : Nat} {Q : State → Prop} {i : Nat} (C : Cx p l s m meth c D k K b L xs) (hi : i + 6 ≤ L) (hc : cells + 32 ≤ 601024 ∧ slots + 900 ≤ 7293034) (kk : Lk p l e s m below meth c D k b ax am ao (cells + 32) (slots + 900) Q i 1759) : Lk p l e s m below meth c D k b ax am ao cells slots Q i 1610 := by
  intro ro wx wm H locs ls hI hB hl
  have F := C.F
  have hx := F.x
  have hb := F.b
  have hc1 := hc.1
  have hc2 := hc.2
  have hA : ∀ q : Nat, s.heap.size ≤ q → (fun q : Nat => s.heap.size ≤ q) q := fun _ h => h
  obtain ⟨fx, hx0⟩ := hI.x0
  obtain ⟨fm, hm0⟩ := hI.m0
  refine lv_aload_n hx hb dL_law_1610 rfl (lv_at hl 1 rfl) ?_
  refine l_arg C hi hB (lv_at hl 0 rfl) (lv_at hl 4 rfl) 1 (by decide) (x := 1) (by decide) (by decide) dL_law_1611 dL_law_1612 dL_law_1614 dL_law_1615 dL_law_1616 ?_
  refine kb_vi (pre := [(ao, aj k 1 ro)]) (wc := wx) (post := wm) (rest := []) (As := [.int (xs (i + 1))]) F C.E hA hB (P_bet l D k K hI (xs (i + 1))) ml_RL_176 mv_yX11_bet hx0 rfl rfl hl.1 rfl (by decide) ⟨Nat.le_of_ble_eq_true rfl, Nat.le_of_ble_eq_true rfl⟩ ⟨by show cells + 0 ≤ 601024; omega, by show slots + 0 ≤ 7293034; omega⟩ dL_law_1617 (fun r wx1 H1 locs1 hN hB => ?_)
  replace hB : Bd D (fun q : Nat => s.heap.size ≤ q) s.heap (((ao, aj k 1 ro) :: wx1) ++ (wm ++ [])) H1 locs1 := by rw [List.append_nil]; exact hB
  refine lv_aload_n hx hb dL_law_1620 rfl (lv_at hl 2 rfl) ?_
  refine l_arg C hi hB (lv_at hl 0 rfl) (lv_at hl 4 rfl) 1 (by decide) (x := 1) (by decide) (by decide) dL_law_1621 dL_law_1622 dL_law_1624 dL_law_1625 dL_law_1626 ?_
  refine ka_vi (pre := (ao, aj k 1 ro) :: wx1) (wc := wm) (post := []) (rest := [.int r]) (As := [.int (xs (i + 1))]) F hA hB hN ml_RL_179 mv_yX12_bet hm0 rfl rfl hl.1 rfl (Nat.le_of_ble_eq_true rfl) ⟨Nat.le_of_ble_eq_true rfl, Nat.le_of_ble_eq_true rfl⟩ ⟨by show cells + 0 + 0 ≤ 601024; omega, by show slots + 0 + 0 ≤ 7293034; omega⟩ dL_law_1627 (fun r2 wm1 H2 locs2 hq hB => ?_)
  rw [List.append_nil] at hB
  refine lv_icmp_eq (tgt := 1759) hx hb dL_law_1630 (by decide) (fun _ => ?_) (fun h => absurd hq.1.symm h)
  exact W.widen (by omega) (by omega) (kk ro wx1 wm1 H2 locs2 ls hq.2 hB hl)

set_option maxRecDepth 100000 in
set_option maxHeartbeats 4000000 in
theorem lc_34 {p : Program} {l : Launch} {e : Env} {s : State} {m : MethodId} {below : List Frame} {meth : Method} {c : Code} {D : va_G} {k : Nat → ClassId} {K : Nat → Nat} {b L : Nat} {xs : Nat → Int32} {ax am ao : Nat} {cells slots : Nat} {Q : State → Prop} {i : Nat} (C : Cx p l s m meth c D k K b L xs) (hi : i + 6 ≤ L) (hc : cells + 32 ≤ 601024 ∧ slots + 900 ≤ 7293034) (kk : Lk p l e s m below meth c D k b ax am ao (cells + 32) (slots + 900) Q i 1759) : Lk p l e s m below meth c D k b ax am ao cells slots Q i 1635 := by
  intro ro wx wm H locs ls hI hB hl
  have F := C.F
  have hx := F.x
  have hb := F.b
  have hc1 := hc.1
  have hc2 := hc.2
  have hA : ∀ q : Nat, s.heap.size ≤ q → (fun q : Nat => s.heap.size ≤ q) q := fun _ h => h
  obtain ⟨fx, hx0⟩ := hI.x0
  obtain ⟨fm, hm0⟩ := hI.m0
  refine lv_aload_n hx hb dL_law_1635 rfl (lv_at hl 1 rfl) ?_
  refine l_arg C hi hB (lv_at hl 0 rfl) (lv_at hl 4 rfl) 1 (by decide) (x := 1) (by decide) (by decide) dL_law_1636 dL_law_1637 dL_law_1639 dL_law_1640 dL_law_1641 ?_
  refine l_arg C hi hB (lv_at hl 0 rfl) (lv_at hl 4 rfl) 2 (by decide) (x := 2) (by decide) (by decide) dL_law_1642 dL_law_1643 dL_law_1645 dL_law_1646 dL_law_1647 ?_
  refine l_arg C hi hB (lv_at hl 0 rfl) (lv_at hl 4 rfl) 3 (by decide) (x := 3) (by decide) (by decide) dL_law_1648 dL_law_1649 dL_law_1651 dL_law_1652 dL_law_1653 ?_
  refine kb_vi (pre := [(ao, aj k 1 ro)]) (wc := wx) (post := wm) (rest := []) (As := [.int (xs (i + 1)), .int (xs (i + 2)), .int (xs (i + 3))]) F C.E hA hB (P_bets l D k K hI (xs (i + 1)) (xs (i + 2)) (xs (i + 3))) ml_RL_180 mv_yX11_bets hx0 rfl rfl hl.1 rfl (by decide) ⟨Nat.le_of_ble_eq_true rfl, Nat.le_of_ble_eq_true rfl⟩ ⟨by show cells + 0 ≤ 601024; omega, by show slots + 0 ≤ 7293034; omega⟩ dL_law_1654 (fun r wx1 H1 locs1 hN hB => ?_)
  replace hB : Bd D (fun q : Nat => s.heap.size ≤ q) s.heap (((ao, aj k 1 ro) :: wx1) ++ (wm ++ [])) H1 locs1 := by rw [List.append_nil]; exact hB
  refine lv_aload_n hx hb dL_law_1657 rfl (lv_at hl 2 rfl) ?_
  refine l_arg C hi hB (lv_at hl 0 rfl) (lv_at hl 4 rfl) 1 (by decide) (x := 1) (by decide) (by decide) dL_law_1658 dL_law_1659 dL_law_1661 dL_law_1662 dL_law_1663 ?_
  refine l_arg C hi hB (lv_at hl 0 rfl) (lv_at hl 4 rfl) 2 (by decide) (x := 2) (by decide) (by decide) dL_law_1664 dL_law_1665 dL_law_1667 dL_law_1668 dL_law_1669 ?_
  refine l_arg C hi hB (lv_at hl 0 rfl) (lv_at hl 4 rfl) 3 (by decide) (x := 3) (by decide) (by decide) dL_law_1670 dL_law_1671 dL_law_1673 dL_law_1674 dL_law_1675 ?_
  refine ka_vi (pre := (ao, aj k 1 ro) :: wx1) (wc := wm) (post := []) (rest := [.int r]) (As := [.int (xs (i + 1)), .int (xs (i + 2)), .int (xs (i + 3))]) F hA hB hN ml_RL_183 mv_yX12_bets hm0 rfl rfl hl.1 rfl (Nat.le_of_ble_eq_true rfl) ⟨Nat.le_of_ble_eq_true rfl, Nat.le_of_ble_eq_true rfl⟩ ⟨by show cells + 0 + 0 ≤ 601024; omega, by show slots + 0 + 0 ≤ 7293034; omega⟩ dL_law_1676 (fun r2 wm1 H2 locs2 hq hB => ?_)
  rw [List.append_nil] at hB
  refine lv_icmp_eq (tgt := 1759) hx hb dL_law_1679 (by decide) (fun _ => ?_) (fun h => absurd hq.1.symm h)
  exact W.widen (by omega) (by omega) (kk ro wx1 wm1 H2 locs2 ls hq.2 hB hl)

set_option maxRecDepth 100000 in
set_option maxHeartbeats 4000000 in
theorem lc_35 {p : Program} {l : Launch} {e : Env} {s : State} {m : MethodId} {below : List Frame} {meth : Method} {c : Code} {D : va_G} {k : Nat → ClassId} {K : Nat → Nat} {b L : Nat} {xs : Nat → Int32} {ax am ao : Nat} {cells slots : Nat} {Q : State → Prop} {i : Nat} (C : Cx p l s m meth c D k K b L xs) (hi : i + 6 ≤ L) (hc : cells + 32 ≤ 601024 ∧ slots + 900 ≤ 7293034) (kk : Lk p l e s m below meth c D k b ax am ao (cells + 32) (slots + 900) Q i 1759) : Lk p l e s m below meth c D k b ax am ao cells slots Q i 1684 := by
  intro ro wx wm H locs ls hI hB hl
  have F := C.F
  have hx := F.x
  have hb := F.b
  have hc1 := hc.1
  have hc2 := hc.2
  have hA : ∀ q : Nat, s.heap.size ≤ q → (fun q : Nat => s.heap.size ≤ q) q := fun _ h => h
  obtain ⟨fx, hx0⟩ := hI.x0
  obtain ⟨fm, hm0⟩ := hI.m0
  refine lv_aload_n hx hb dL_law_1684 rfl (lv_at hl 1 rfl) ?_
  refine l_arg C hi hB (lv_at hl 0 rfl) (lv_at hl 4 rfl) 1 (by decide) (x := 1) (by decide) (by decide) dL_law_1685 dL_law_1686 dL_law_1688 dL_law_1689 dL_law_1690 ?_
  obtain ⟨fr, lo, mc, ms, g1, g2, g3, g4, hM⟩ := P_image l D k K hI (xs (i + 1))
  refine kb_vi (pre := [(ao, aj k 1 ro)]) (wc := wx) (post := wm) (rest := []) (As := [.int (xs (i + 1))]) F C.E hA hB hM ml_RL_184 mv_yX11_image hx0 rfl rfl hl.1 rfl (by decide) ⟨by show fr + 1 ≤ 2048; omega, by show 8 + (2 + 11) + lo ≤ 84000; omega⟩ ⟨by show cells + mc ≤ 601024; omega, by show slots + ms ≤ 7293034; omega⟩ dL_law_1691 (fun r wx1 H1 locs1 hN hB => ?_)
  replace hB : Bd D (fun q : Nat => s.heap.size ≤ q) s.heap (((ao, aj k 1 ro) :: wx1) ++ (wm ++ [])) H1 locs1 := by rw [List.append_nil]; exact hB
  refine lv_aload_n hx hb dL_law_1694 rfl (lv_at hl 2 rfl) ?_
  refine l_arg C hi hB (lv_at hl 0 rfl) (lv_at hl 4 rfl) 1 (by decide) (x := 1) (by decide) (by decide) dL_law_1695 dL_law_1696 dL_law_1698 dL_law_1699 dL_law_1700 ?_
  refine ka_vi (pre := (ao, aj k 1 ro) :: wx1) (wc := wm) (post := []) (rest := [.int r]) (As := [.int (xs (i + 1))]) F hA hB hN ml_RL_187 mv_yX12_image hm0 rfl rfl hl.1 rfl (Nat.le_of_ble_eq_true rfl) ⟨Nat.le_of_ble_eq_true rfl, Nat.le_of_ble_eq_true rfl⟩ ⟨by show cells + mc + 0 ≤ 601024; omega, by show slots + ms + 0 ≤ 7293034; omega⟩ dL_law_1701 (fun r2 wm1 H2 locs2 hq hB => ?_)
  rw [List.append_nil] at hB
  refine lv_icmp_eq (tgt := 1759) hx hb dL_law_1704 (by decide) (fun _ => ?_) (fun h => absurd hq.1.symm h)
  exact W.widen (by omega) (by omega) (kk ro wx1 wm1 H2 locs2 ls hq.2 hB hl)

set_option maxRecDepth 100000 in
set_option maxHeartbeats 4000000 in
theorem lc_36 {p : Program} {l : Launch} {e : Env} {s : State} {m : MethodId} {below : List Frame} {meth : Method} {c : Code} {D : va_G} {k : Nat → ClassId} {K : Nat → Nat} {b L : Nat} {xs : Nat → Int32} {ax am ao : Nat} {cells slots : Nat} {Q : State → Prop} {i : Nat} (C : Cx p l s m meth c D k K b L xs) (hi : i + 6 ≤ L) (hc : cells + 32 ≤ 601024 ∧ slots + 900 ≤ 7293034) (kk : Lk p l e s m below meth c D k b ax am ao (cells + 32) (slots + 900) Q i 1759) : Lk p l e s m below meth c D k b ax am ao cells slots Q i 1709 := by
  intro ro wx wm H locs ls hI hB hl
  have F := C.F
  have hx := F.x
  have hb := F.b
  have hc1 := hc.1
  have hc2 := hc.2
  have hA : ∀ q : Nat, s.heap.size ≤ q → (fun q : Nat => s.heap.size ≤ q) q := fun _ h => h
  obtain ⟨fx, hx0⟩ := hI.x0
  obtain ⟨fm, hm0⟩ := hI.m0
  refine lv_aload_n hx hb dL_law_1709 rfl (lv_at hl 1 rfl) ?_
  refine l_arg C hi hB (lv_at hl 0 rfl) (lv_at hl 4 rfl) 1 (by decide) (x := 1) (by decide) (by decide) dL_law_1710 dL_law_1711 dL_law_1713 dL_law_1714 dL_law_1715 ?_
  obtain ⟨fr, lo, mc, ms, g1, g2, g3, g4, hM⟩ := P_restore l D k K hI (xs (i + 1))
  refine kb_vi (pre := [(ao, aj k 1 ro)]) (wc := wx) (post := wm) (rest := []) (As := [.int (xs (i + 1))]) F C.E hA hB hM ml_RL_188 mv_yX11_restore hx0 rfl rfl hl.1 rfl (by decide) ⟨by show fr + 1 ≤ 2048; omega, by show 8 + (2 + 11) + lo ≤ 84000; omega⟩ ⟨by show cells + mc ≤ 601024; omega, by show slots + ms ≤ 7293034; omega⟩ dL_law_1716 (fun r wx1 H1 locs1 hN hB => ?_)
  replace hB : Bd D (fun q : Nat => s.heap.size ≤ q) s.heap (((ao, aj k 1 ro) :: wx1) ++ (wm ++ [])) H1 locs1 := by rw [List.append_nil]; exact hB
  refine lv_aload_n hx hb dL_law_1719 rfl (lv_at hl 2 rfl) ?_
  refine l_arg C hi hB (lv_at hl 0 rfl) (lv_at hl 4 rfl) 1 (by decide) (x := 1) (by decide) (by decide) dL_law_1720 dL_law_1721 dL_law_1723 dL_law_1724 dL_law_1725 ?_
  refine ka_vi (pre := (ao, aj k 1 ro) :: wx1) (wc := wm) (post := []) (rest := [.int r]) (As := [.int (xs (i + 1))]) F hA hB hN ml_RL_191 mv_yX12_restore hm0 rfl rfl hl.1 rfl (Nat.le_of_ble_eq_true rfl) ⟨Nat.le_of_ble_eq_true rfl, Nat.le_of_ble_eq_true rfl⟩ ⟨by show cells + mc + 0 ≤ 601024; omega, by show slots + ms + 0 ≤ 7293034; omega⟩ dL_law_1726 (fun r2 wm1 H2 locs2 hq hB => ?_)
  rw [List.append_nil] at hB
  refine lv_icmp_eq (tgt := 1759) hx hb dL_law_1729 (by decide) (fun _ => ?_) (fun h => absurd hq.1.symm h)
  exact W.widen (by omega) (by omega) (kk ro wx1 wm1 H2 locs2 ls hq.2 hB hl)

set_option maxRecDepth 100000 in
set_option maxHeartbeats 4000000 in
theorem lc_37 {p : Program} {l : Launch} {e : Env} {s : State} {m : MethodId} {below : List Frame} {meth : Method} {c : Code} {D : va_G} {k : Nat → ClassId} {K : Nat → Nat} {b L : Nat} {xs : Nat → Int32} {ax am ao : Nat} {cells slots : Nat} {Q : State → Prop} {i : Nat} (C : Cx p l s m meth c D k K b L xs) (hi : i + 6 ≤ L) (hc : cells + 32 ≤ 601024 ∧ slots + 900 ≤ 7293034) (kk : Lk p l e s m below meth c D k b ax am ao (cells + 32) (slots + 900) Q i 1759) : Lk p l e s m below meth c D k b ax am ao cells slots Q i 1734 := by
  intro ro wx wm H locs ls hI hB hl
  have F := C.F
  have hx := F.x
  have hb := F.b
  have hc1 := hc.1
  have hc2 := hc.2
  have hA : ∀ q : Nat, s.heap.size ≤ q → (fun q : Nat => s.heap.size ≤ q) q := fun _ h => h
  obtain ⟨fx, hx0⟩ := hI.x0
  obtain ⟨fm, hm0⟩ := hI.m0
  refine lv_aload_n hx hb dL_law_1734 rfl (lv_at hl 1 rfl) ?_
  refine l_arg C hi hB (lv_at hl 0 rfl) (lv_at hl 4 rfl) 1 (by decide) (x := 1) (by decide) (by decide) dL_law_1735 dL_law_1736 dL_law_1738 dL_law_1739 dL_law_1740 ?_
  refine kb_vi (pre := [(ao, aj k 1 ro)]) (wc := wx) (post := wm) (rest := []) (As := [.int (xs (i + 1))]) F C.E hA hB (P_count l D k K hI (xs (i + 1))) ml_RL_192 mv_yX11_count hx0 rfl rfl hl.1 rfl (by decide) ⟨Nat.le_of_ble_eq_true rfl, Nat.le_of_ble_eq_true rfl⟩ ⟨by show cells + 0 ≤ 601024; omega, by show slots + 0 ≤ 7293034; omega⟩ dL_law_1741 (fun r wx1 H1 locs1 hN hB => ?_)
  replace hB : Bd D (fun q : Nat => s.heap.size ≤ q) s.heap (((ao, aj k 1 ro) :: wx1) ++ (wm ++ [])) H1 locs1 := by rw [List.append_nil]; exact hB
  refine lv_aload_n hx hb dL_law_1744 rfl (lv_at hl 2 rfl) ?_
  refine l_arg C hi hB (lv_at hl 0 rfl) (lv_at hl 4 rfl) 1 (by decide) (x := 1) (by decide) (by decide) dL_law_1745 dL_law_1746 dL_law_1748 dL_law_1749 dL_law_1750 ?_
  refine ka_vi (pre := (ao, aj k 1 ro) :: wx1) (wc := wm) (post := []) (rest := [.int r]) (As := [.int (xs (i + 1))]) F hA hB hN ml_RL_195 mv_yX12_count hm0 rfl rfl hl.1 rfl (Nat.le_of_ble_eq_true rfl) ⟨Nat.le_of_ble_eq_true rfl, Nat.le_of_ble_eq_true rfl⟩ ⟨by show cells + 0 + 0 ≤ 601024; omega, by show slots + 0 + 0 ≤ 7293034; omega⟩ dL_law_1751 (fun r2 wm1 H2 locs2 hq hB => ?_)
  rw [List.append_nil] at hB
  refine lv_icmp_eq (tgt := 1759) hx hb dL_law_1754 (by decide) (fun _ => ?_) (fun h => absurd hq.1.symm h)
  exact W.widen (by omega) (by omega) (kk ro wx1 wm1 H2 locs2 ls hq.2 hB hl)
