/-! the law's loop (mkloop.py) -/
set_option maxRecDepth 100000 in
set_option maxHeartbeats 4000000 in
theorem law_sw {p : Program} {l : Launch} {e : Env} {s : State} {m : MethodId} {below : List Frame} {meth : Method} {c : Code} {D : va_G} {k : Nat → ClassId} {K : Nat → Nat} {b L : Nat} {xs : Nat → Int32} {ax am ao : Nat} {cells slots : Nat} {Q : State → Prop} {i : Nat} (C : Cx p l s m meth c D k K b L xs) (hi : i + 6 ≤ L) (hc : cells + 32 ≤ 601024 ∧ slots + 900 ≤ 7293034) (kk : Lk p l e s m below meth c D k b ax am ao (cells + 32) (slots + 900) Q i 1759) : Lk p l e s m below meth c D k b ax am ao cells slots Q i 33 := by
  intro ro wx wm H locs ls hI hB hl
  have F := C.F
  have hx := F.x
  have hb := F.b
  have hL := C.L
  refine lv_aload_n hx hb dL_law_33 rfl (lv_at hl 0 rfl) ?_
  refine lv_iload hx hb dL_law_34 (lv_at hl 4 rfl) ?_
  refine va_sld hx hb C.X C.bl (Nat.not_le.mpr C.bl) hB.2.2 (eI_in (by omega) (by omega) (by omega)) dL_law_36 ?_
  rw [eI_cl (by omega) (by omega), Int.toNat_natCast]
  refine lv_bipush (v := 63) hx hb dL_law_37 (by decide) ?_
  refine lv_iand hx hb dL_law_39 ?_
  obtain ⟨y, hy⟩ : ∃ y : Int32, y = xs i &&& 63 := ⟨_, rfl⟩
  rw [← hy]
  by_cases h : 0 ≤ y.toInt ∧ y.toInt ≤ 37
  · obtain ⟨z, hz, hz2⟩ : ∃ z : Nat, z < 38 ∧ y.toInt = (z : Int) := ⟨y.toInt.toNat, by omega, by omega⟩
    have hzz : z = 0 ∨ z = 1 ∨ z = 2 ∨ z = 3 ∨ z = 4 ∨ z = 5 ∨ z = 6 ∨ z = 7 ∨ z = 8 ∨ z = 9 ∨ z = 10 ∨ z = 11 ∨ z = 12 ∨ z = 13 ∨ z = 14 ∨ z = 15 ∨ z = 16 ∨ z = 17 ∨ z = 18 ∨ z = 19 ∨ z = 20 ∨ z = 21 ∨ z = 22 ∨ z = 23 ∨ z = 24 ∨ z = 25 ∨ z = 26 ∨ z = 27 ∨ z = 28 ∨ z = 29 ∨ z = 30 ∨ z = 31 ∨ z = 32 ∨ z = 33 ∨ z = 34 ∨ z = 35 ∨ z = 36 ∨ z = 37 := by omega
    rcases hzz with rfl | rfl | rfl | rfl | rfl | rfl | rfl | rfl | rfl | rfl | rfl | rfl | rfl | rfl | rfl | rfl | rfl | rfl | rfl | rfl | rfl | rfl | rfl | rfl | rfl | rfl | rfl | rfl | rfl | rfl | rfl | rfl | rfl | rfl | rfl | rfl | rfl | rfl
    · refine lv_tableIn (tgt := 208) (off := 168) hx hb dL_law_40 (by omega) (by omega) (by rw [hz2]; rfl) (by decide) ?_
      exact lc_0 C hi hc kk ro wx wm H locs ls hI hB hl
    · refine lv_tableIn (tgt := 281) (off := 241) hx hb dL_law_40 (by omega) (by omega) (by rw [hz2]; rfl) (by decide) ?_
      exact lc_1 C hi hc kk ro wx wm H locs ls hI hB hl
    · refine lv_tableIn (tgt := 306) (off := 266) hx hb dL_law_40 (by omega) (by omega) (by rw [hz2]; rfl) (by decide) ?_
      exact lc_2 C hi hc kk ro wx wm H locs ls hI hB hl
    · refine lv_tableIn (tgt := 319) (off := 279) hx hb dL_law_40 (by omega) (by omega) (by rw [hz2]; rfl) (by decide) ?_
      exact lc_3 C hi hc kk ro wx wm H locs ls hI hB hl
    · refine lv_tableIn (tgt := 332) (off := 292) hx hb dL_law_40 (by omega) (by omega) (by rw [hz2]; rfl) (by decide) ?_
      exact lc_4 C hi hc kk ro wx wm H locs ls hI hB hl
    · refine lv_tableIn (tgt := 388) (off := 348) hx hb dL_law_40 (by omega) (by omega) (by rw [hz2]; rfl) (by decide) ?_
      exact lc_5 C hi hc kk ro wx wm H locs ls hI hB hl
    · refine lv_tableIn (tgt := 456) (off := 416) hx hb dL_law_40 (by omega) (by omega) (by rw [hz2]; rfl) (by decide) ?_
      exact lc_6 C hi hc kk ro wx wm H locs ls hI hB hl
    · refine lv_tableIn (tgt := 524) (off := 484) hx hb dL_law_40 (by omega) (by omega) (by rw [hz2]; rfl) (by decide) ?_
      exact lc_7 C hi hc kk ro wx wm H locs ls hI hB hl
    · refine lv_tableIn (tgt := 549) (off := 509) hx hb dL_law_40 (by omega) (by omega) (by rw [hz2]; rfl) (by decide) ?_
      exact lc_8 C hi hc kk ro wx wm H locs ls hI hB hl
    · refine lv_tableIn (tgt := 617) (off := 577) hx hb dL_law_40 (by omega) (by omega) (by rw [hz2]; rfl) (by decide) ?_
      exact lc_9 C hi hc kk ro wx wm H locs ls hI hB hl
    · refine lv_tableIn (tgt := 685) (off := 645) hx hb dL_law_40 (by omega) (by omega) (by rw [hz2]; rfl) (by decide) ?_
      exact lc_10 C hi hc kk ro wx wm H locs ls hI hB hl
    · refine lv_tableIn (tgt := 722) (off := 682) hx hb dL_law_40 (by omega) (by omega) (by rw [hz2]; rfl) (by decide) ?_
      exact lc_11 C hi hc kk ro wx wm H locs ls hI hB hl
    · refine lv_tableIn (tgt := 802) (off := 762) hx hb dL_law_40 (by omega) (by omega) (by rw [hz2]; rfl) (by decide) ?_
      exact lc_12 C hi hc kk ro wx wm H locs ls hI hB hl
    · refine lv_tableIn (tgt := 882) (off := 842) hx hb dL_law_40 (by omega) (by omega) (by rw [hz2]; rfl) (by decide) ?_
      exact lc_13 C hi hc kk ro wx wm H locs ls hI hB hl
    · refine lv_tableIn (tgt := 931) (off := 891) hx hb dL_law_40 (by omega) (by omega) (by rw [hz2]; rfl) (by decide) ?_
      exact lc_14 C hi hc kk ro wx wm H locs ls hI hB hl
    · refine lv_tableIn (tgt := 968) (off := 928) hx hb dL_law_40 (by omega) (by omega) (by rw [hz2]; rfl) (by decide) ?_
      exact lc_15 C hi hc kk ro wx wm H locs ls hI hB hl
    · refine lv_tableIn (tgt := 1017) (off := 977) hx hb dL_law_40 (by omega) (by omega) (by rw [hz2]; rfl) (by decide) ?_
      exact lc_16 C hi hc kk ro wx wm H locs ls hI hB hl
    · refine lv_tableIn (tgt := 1054) (off := 1014) hx hb dL_law_40 (by omega) (by omega) (by rw [hz2]; rfl) (by decide) ?_
      exact lc_17 C hi hc kk ro wx wm H locs ls hI hB hl
    · refine lv_tableIn (tgt := 1103) (off := 1063) hx hb dL_law_40 (by omega) (by omega) (by rw [hz2]; rfl) (by decide) ?_
      exact lc_18 C hi hc kk ro wx wm H locs ls hI hB hl
    · refine lv_tableIn (tgt := 1164) (off := 1124) hx hb dL_law_40 (by omega) (by omega) (by rw [hz2]; rfl) (by decide) ?_
      exact lc_19 C hi hc kk ro wx wm H locs ls hI hB hl
    · refine lv_tableIn (tgt := 1189) (off := 1149) hx hb dL_law_40 (by omega) (by omega) (by rw [hz2]; rfl) (by decide) ?_
      exact lc_20 C hi hc kk ro wx wm H locs ls hI hB hl
    · refine lv_tableIn (tgt := 1202) (off := 1162) hx hb dL_law_40 (by omega) (by omega) (by rw [hz2]; rfl) (by decide) ?_
      exact lc_21 C hi hc kk ro wx wm H locs ls hI hB hl
    · refine lv_tableIn (tgt := 1227) (off := 1187) hx hb dL_law_40 (by omega) (by omega) (by rw [hz2]; rfl) (by decide) ?_
      exact lc_22 C hi hc kk ro wx wm H locs ls hI hB hl
    · refine lv_tableIn (tgt := 1252) (off := 1212) hx hb dL_law_40 (by omega) (by omega) (by rw [hz2]; rfl) (by decide) ?_
      exact lc_23 C hi hc kk ro wx wm H locs ls hI hB hl
    · refine lv_tableIn (tgt := 1301) (off := 1261) hx hb dL_law_40 (by omega) (by omega) (by rw [hz2]; rfl) (by decide) ?_
      exact lc_24 C hi hc kk ro wx wm H locs ls hI hB hl
    · refine lv_tableIn (tgt := 1350) (off := 1310) hx hb dL_law_40 (by omega) (by omega) (by rw [hz2]; rfl) (by decide) ?_
      exact lc_25 C hi hc kk ro wx wm H locs ls hI hB hl
    · refine lv_tableIn (tgt := 1375) (off := 1335) hx hb dL_law_40 (by omega) (by omega) (by rw [hz2]; rfl) (by decide) ?_
      exact lc_26 C hi hc kk ro wx wm H locs ls hI hB hl
    · refine lv_tableIn (tgt := 1388) (off := 1348) hx hb dL_law_40 (by omega) (by omega) (by rw [hz2]; rfl) (by decide) ?_
      exact lc_27 C hi hc kk ro wx wm H locs ls hI hB hl
    · refine lv_tableIn (tgt := 1413) (off := 1373) hx hb dL_law_40 (by omega) (by omega) (by rw [hz2]; rfl) (by decide) ?_
      exact lc_28 C hi hc kk ro wx wm H locs ls hI hB hl
    · refine lv_tableIn (tgt := 1486) (off := 1446) hx hb dL_law_40 (by omega) (by omega) (by rw [hz2]; rfl) (by decide) ?_
      exact lc_29 C hi hc kk ro wx wm H locs ls hI hB hl
    · refine lv_tableIn (tgt := 1547) (off := 1507) hx hb dL_law_40 (by omega) (by omega) (by rw [hz2]; rfl) (by decide) ?_
      exact lc_30 C hi hc kk ro wx wm H locs ls hI hB hl
    · refine lv_tableIn (tgt := 1560) (off := 1520) hx hb dL_law_40 (by omega) (by omega) (by rw [hz2]; rfl) (by decide) ?_
      exact lc_31 C hi hc kk ro wx wm H locs ls hI hB hl
    · refine lv_tableIn (tgt := 1585) (off := 1545) hx hb dL_law_40 (by omega) (by omega) (by rw [hz2]; rfl) (by decide) ?_
      exact lc_32 C hi hc kk ro wx wm H locs ls hI hB hl
    · refine lv_tableIn (tgt := 1610) (off := 1570) hx hb dL_law_40 (by omega) (by omega) (by rw [hz2]; rfl) (by decide) ?_
      exact lc_33 C hi hc kk ro wx wm H locs ls hI hB hl
    · refine lv_tableIn (tgt := 1635) (off := 1595) hx hb dL_law_40 (by omega) (by omega) (by rw [hz2]; rfl) (by decide) ?_
      exact lc_34 C hi hc kk ro wx wm H locs ls hI hB hl
    · refine lv_tableIn (tgt := 1684) (off := 1644) hx hb dL_law_40 (by omega) (by omega) (by rw [hz2]; rfl) (by decide) ?_
      exact lc_35 C hi hc kk ro wx wm H locs ls hI hB hl
    · refine lv_tableIn (tgt := 1709) (off := 1669) hx hb dL_law_40 (by omega) (by omega) (by rw [hz2]; rfl) (by decide) ?_
      exact lc_36 C hi hc kk ro wx wm H locs ls hI hB hl
    · refine lv_tableIn (tgt := 1734) (off := 1694) hx hb dL_law_40 (by omega) (by omega) (by rw [hz2]; rfl) (by decide) ?_
      exact lc_37 C hi hc kk ro wx wm H locs ls hI hB hl
  · refine lv_tableOut (tgt := 1759) hx hb dL_law_40 (by omega) (by decide) ?_
    exact W.widen (by omega) (by omega) (kk ro wx wm H locs ls hI hB hl)
set_option maxRecDepth 100000 in
set_option maxHeartbeats 4000000 in
theorem law_head {p : Program} {l : Launch} {e : Env} {s : State} {m : MethodId} {below : List Frame} {meth : Method} {c : Code} {D : va_G} {k : Nat → ClassId} {K : Nat → Nat} {b L : Nat} {xs : Nat → Int32} {ax am ao : Nat} {cells slots : Nat} {Q : State → Prop} {i : Nat} (C : Cx p l s m meth c D k K b L xs) (hc : (cells ≤ 601024 ∧ slots ≤ 7293034) ∧ i ≤ 3072) (hend : ∀ (H : Heap) (ls : Array Slot), W p l e room_1 s m #[Value.ref b] below meth c H [] 601024 7293034 Q (F0 m 1765 ls [])) (kk : i + 6 ≤ L → Lk p l e s m below meth c D k b ax am ao cells slots Q i 33) : Lk p l e s m below meth c D k b ax am ao cells slots Q i 23 := by
  intro ro wx wm H locs ls hI hB hl
  have hx := C.F.x
  have hb := C.F.b
  have hL := C.L
  refine lv_iload hx hb dL_law_23 (lv_at hl 4 rfl) ?_
  refine lv_aload_n hx hb dL_law_25 rfl (lv_at hl 0 rfl) ?_
  refine va_slen hx hb C.X C.bl (Nat.not_le.mpr C.bl) hB.2.2 dL_law_26 ?_
  refine lv_bipush (v := 6) hx hb dL_law_27 (by decide) ?_
  refine lv_isub hx hb dL_law_29 ?_
  have e : Int32.ofNat L - 6 = eI ((L : Int) - 6) := by
    rw [← eI_sub]; rfl
  rw [e]
  refine lv_icmp_gt (tgt := 1765) hx hb dL_law_30 (by decide) (fun h => ?_) (fun h => ?_)
  · refine va_forget (fun q hq => hB.2.2.2.2 q hq) ?_
    exact W.widen hc.1.1 hc.1.2 (hend H ls)
  · rw [eI_lt ⟨by omega, by omega⟩ ⟨by omega, by omega⟩] at h
    exact kk (by omega) ro wx wm H locs ls hI hB hl
set_option maxRecDepth 100000 in
set_option maxHeartbeats 4000000 in
theorem law_loop {p : Program} {l : Launch} {e : Env} {s : State} {m : MethodId} {below : List Frame} {meth : Method} {c : Code} {D : va_G} {k : Nat → ClassId} {K : Nat → Nat} {b L : Nat} {xs : Nat → Int32} {ax am ao : Nat} {Q : State → Prop} (C : Cx p l s m meth c D k K b L xs) (hend : ∀ (H : Heap) (ls : Array Slot), W p l e room_1 s m #[Value.ref b] below meth c H [] 601024 7293034 Q (F0 m 1765 ls [])) : ∀ (n t : Nat), 512 ≤ t + n → 6 * t ≤ 3072 → Lk p l e s m below meth c D k b ax am ao (200 + 32 * t) (20000 + 900 * t) Q (6 * t) 23 := by
  intro n
  induction n with
  | zero =>
    intro t h1 h2 ro wx wm H locs ls hI hB hl
    have ht : t = 512 := by omega
    exact law_head C (by omega) hend (fun hi => absurd C.L (by omega)) ro wx wm H locs ls hI hB hl
  | succ n ih =>
    intro t h1 h2
    refine law_head C (by omega) hend (fun hi => ?_)
    have hL := C.L
    refine law_sw C hi (by omega) ?_
    intro ro wx wm H locs ls hI hB hl
    have hx := C.F.x
    have hb := C.F.b
    refine lv_iinc (v := eI ((6 * (t + 1) : Nat) : Int)) (lv' := [(4, .int (eI ((6 * (t + 1) : Nat) : Int))), (0, .ref b), (1, .ref ax), (2, .ref am), (3, .ref ao)]) hx hb dL_law_1759 hl (k := 4) rfl ?_ (by decide) rfl (fun ls hl => ?_)
    · show eI ((6 * t : Nat) : Int) + eI 6 = _
      rw [eI_add]
      congr 1
    · refine lv_goto (tgt := 23) hx hb dL_law_1762 (by decide) ?_
      exact W.widen (by omega) (by omega) (ih (t + 1) (by omega) (by omega) ro wx wm H locs ls hI hB (lv_sub hl [1, 2, 3, 4, 0] rfl))
