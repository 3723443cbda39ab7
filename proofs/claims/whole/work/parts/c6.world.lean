/-! what stands around, out of the premises (mkworld.py) -/
theorem ty_p {args : Array Value} {s : State} {ty : FieldType} (h : (Cond.arrayClass ty).before args s = true) : ∃ cA : ClassId, ArrOfT s cA ty ∧ s.vm.findClass ("[" ++ ty.toString) = some cA := by
  obtain ⟨c, k, comp, h1, h2, h3⟩ := Cond.arrayClass_spec h
  exact ⟨c, fun n z => ⟨fun k h => (by cases h), k, h2, comp, h3⟩, h1⟩
theorem ty_o {s : State} {C : String} (h : va_AO C s) : ∃ cA : ClassId, ArrOfT s cA (.object C) ∧ va_RA s cA (.object C) := by
  obtain ⟨comp, c, k, h1, h2, h3, h4, h5⟩ := Cond.arrayOver_spec h
  exact ⟨c, fun n z => ⟨fun k h => (by cases h), k, h3, comp, h4⟩, k, comp, h3, h4, h1, h5⟩
theorem kn_all {args : Array Value} {s : State} (hts : ∀ w ∈ UU, w.before args s = true) (c : Nat) : ∃ x : ClassId × (Nat → Nat), ∀ q : vw_C, vwCl[c]? = some q → u_Kn s q.1 q.2.1 q.2.2 x.1 x.2 := by
  have hc : c = 0 ∨ c = 1 ∨ c = 2 ∨ c = 3 ∨ c = 4 ∨ c = 5 ∨ c = 6 ∨ c = 7 ∨ c = 8 ∨ c = 9 ∨ c = 10 ∨ c = 11 ∨ c = 12 ∨ 13 ≤ c := by omega
  rcases hc with rfl | rfl | rfl | rfl | rfl | rfl | rfl | rfl | rfl | rfl | rfl | rfl | rfl | hc
  · obtain ⟨cC, iS, hk⟩ := u_known (C := RX0) (T := TX0) (N := 10) (n := 10) hts inW0 (hts _ (inU (by decide +kernel)))
    exact ⟨(cC, iS), fun q hq => by cases hq; exact hk⟩
  · obtain ⟨cC, iS, hk⟩ := u_known (C := RX1) (T := TX1) (N := 6) (n := 6) hts inW1 (hts _ (inU (by decide +kernel)))
    exact ⟨(cC, iS), fun q hq => by cases hq; exact hk⟩
  · obtain ⟨cC, iS, hk⟩ := u_known (C := RX2) (T := TX2) (N := 4) (n := 4) hts inW2 (hts _ (inU (by decide +kernel)))
    exact ⟨(cC, iS), fun q hq => by cases hq; exact hk⟩
  · obtain ⟨cC, iS, hk⟩ := u_known (C := RX3) (T := TX3) (N := 16) (n := 16) hts inW3 (hts _ (inU (by decide +kernel)))
    exact ⟨(cC, iS), fun q hq => by cases hq; exact hk⟩
  · obtain ⟨cC, iS, hk⟩ := u_known (C := RX4) (T := TX4) (N := 6) (n := 6) hts inW4 (hts _ (inU (by decide +kernel)))
    exact ⟨(cC, iS), fun q hq => by cases hq; exact hk⟩
  · obtain ⟨cC, iS, hk⟩ := u_known (C := RX5) (T := TX5) (N := 12) (n := 12) hts inW5 (hts _ (inU (by decide +kernel)))
    exact ⟨(cC, iS), fun q hq => by cases hq; exact hk⟩
  · obtain ⟨cC, iS, hk⟩ := u_known (C := RX6) (T := TX6) (N := 4) (n := 4) hts inW6 (hts _ (inU (by decide +kernel)))
    exact ⟨(cC, iS), fun q hq => by cases hq; exact hk⟩
  · obtain ⟨cC, iS, hk⟩ := u_known (C := RX7) (T := TX7) (N := 10) (n := 10) hts inW7 (hts _ (inU (by decide +kernel)))
    exact ⟨(cC, iS), fun q hq => by cases hq; exact hk⟩
  · obtain ⟨cC, iS, hk⟩ := u_known (C := RX8) (T := TX8) (N := 12) (n := 12) hts inW8 (hts _ (inU (by decide +kernel)))
    exact ⟨(cC, iS), fun q hq => by cases hq; exact hk⟩
  · obtain ⟨cC, iS, hk⟩ := u_known (C := RX9) (T := TX9) (N := 3) (n := 3) hts inW9 (hts _ (inU (by decide +kernel)))
    exact ⟨(cC, iS), fun q hq => by cases hq; exact hk⟩
  · obtain ⟨cC, iS, hk⟩ := u_known (C := RX10) (T := TX10) (N := 3) (n := 3) hts inW10 (hts _ (inU (by decide +kernel)))
    exact ⟨(cC, iS), fun q hq => by cases hq; exact hk⟩
  · obtain ⟨cC, iS, hk⟩ := u_known (C := RX11) (T := TX11) (N := 13) (n := 13) hts inW11 (hts _ (inU (by decide +kernel)))
    exact ⟨(cC, iS), fun q hq => by cases hq; exact hk⟩
  · obtain ⟨cC, iS, hk⟩ := u_known (C := RX12) (T := TX12) (N := 49) (n := 49) hts inW12 (hts _ (inU (by decide +kernel)))
    exact ⟨(cC, iS), fun q hq => by cases hq; exact hk⟩
  · exact ⟨(0, fun _ => 0), fun q hq => by
      rw [List.getElem?_eq_none (by show 13 ≤ c; exact hc)] at hq
      cases hq⟩
theorem kn_K {args : Array Value} {s : State} (hts : ∀ w ∈ UU, w.before args s = true) (hR : va_AO "LongTrain$Row" s) (hS : va_AO "LongTrain$State" s) : ∃ (D : va_G) (k : Nat → ClassId), va_K D vwCl (TY k) s := by
  obtain ⟨c0, a0, b0⟩ := ty_p (hts _ ac_i)
  obtain ⟨c1, a1, b1⟩ := ty_p (hts _ ac_j)
  obtain ⟨c2, a2, b2⟩ := ty_p (hts _ ac_b)
  obtain ⟨c3, a3, b3⟩ := ty_p (hts _ ac_z)
  obtain ⟨c4, a4, b4⟩ := ty_o hR
  obtain ⟨c5, a5, b5⟩ := ty_o hS
  refine ⟨(fun c => (kn_all hts c).choose.1, fun c => (kn_all hts c).choose.2), fun j => match j with | 0 => c0 | 1 => c1 | 2 => c2 | 3 => c3 | 4 => c4 | _ => c5, fun c q hq => (kn_all hts c).choose_spec q hq, fun j q hq => ?_⟩
  match j, hq with
  | 0, hq => cases hq; exact ⟨a0, b0⟩
  | 1, hq => cases hq; exact ⟨a1, b1⟩
  | 2, hq => cases hq; exact ⟨a2, b2⟩
  | 3, hq => cases hq; exact ⟨a3, b3⟩
  | 4, hq => cases hq; exact ⟨a4, b4⟩
  | 5, hq => cases hq; exact ⟨a5, b5⟩
  | j + 6, hq => simp at hq
abbrev kwT : Term := .string "LongTrain$Reader" 71
abbrev kwV : Term := .field kwT "java/lang/String" "value" "[B"
theorem pr_el : ∀ j : Fin 112, Cond.eq (.elem kwV (.int (Int32.ofNat j.1))) (.int (KWb.getD j.1 0)) ∈ flatC (Jvm.Cond.and given_1 narrow_1) := by decide +kernel
theorem pr_nw : ∀ q ∈ NWs, Cond.methodLinkNest q.1 q.2.1 q.2.2 "LongTrain" ∈ lw_tbl := by decide +kernel
theorem am_at {args : Array Value} {s : State} (hts : ∀ w ∈ lw_tbl, w.before args s = true) (hgv : (Jvm.Cond.and given_1 narrow_1).before args s = true) : ∃ K : Nat → Nat, Am K (fun q : Nat => s.heap.size ≤ q) s s.heap := by
  have hs := flat_of_before _ hgv
  have hA : ∀ a : Nat, a < s.heap.size → ¬ (fun q : Nat => s.heap.size ≤ q) a := fun a h => Nat.not_le.mpr h
  obtain ⟨adK, adV, hS, hE⟩ := vk_Sof (args := args) (s := s) (N := 1) (tm := fun _ => kwT) (len := [112]) (byt := [KWb]) (A := fun q : Nat => s.heap.size ≤ q) (fun i hi => by
      have e : i = 0 := by omega
      subst e
      decide)
    (fun i hi => hs (Cond.exactly kwT "java/lang/String") (by decide +kernel)) (fun i hi => hs (Cond.eq (.field kwT "java/lang/String" "coder" "B") (.int 0)) (by decide +kernel)) (fun i hi => hs (Cond.arrayOf kwV .byte) (by decide +kernel))
    (fun i hi => by
      have e : i = 0 := by omega
      subst e
      exact hs (Cond.eq (.length kwV) (.int 112)) (by decide +kernel))
    (fun i hi j hj => by
      have e : i = 0 := by omega
      subst e
      exact hs _ (pr_el ⟨j, hj⟩))
    (fun i j hi hj h => absurd h (by omega)) hA
  refine ⟨fun q => if q = 0 then adK 0 else adV 0, vk_R.of (A := args) (hts _ (by decide +kernel)) (hE 0 (by omega)), ⟨fun i hi => ?_, fun i j hi hj _ => by omega⟩, va_Zof (args := args) (hts (.laysStatic "java/lang/String" "COMPACT_STRINGS" "Z") (by decide +kernel)) (hts (.initialized "java/lang/String") (by decide +kernel)) (va_eqi (hs (Cond.eq (.static "java/lang/String" "COMPACT_STRINGS" "Z") (.int 1)) (by decide +kernel))) hA, va_Zqof (args := args) (hts _ (by decide +kernel)) (hts _ (by decide +kernel)) (hs _ (by decide +kernel)) hA, vx_Zqof (args := args) (hts _ (by decide +kernel)) (hts _ (by decide +kernel)) (hs _ (by decide +kernel)) hA, vx_Zqof (args := args) (hts _ (by decide +kernel)) (hts _ (by decide +kernel)) (hs _ (by decide +kernel)) hA, fun q hq => va_Nw.of (A := args) rfl (hts _ (pr_nw q hq)), fun w hw => ?_, va_AO.of (A := args) (hts _ (by decide +kernel)), va_AO.of (A := args) (hts _ (by decide +kernel))⟩
  · have e : i = 0 := by omega
    subst e
    exact hS.1 0 (by omega)
  · rcases ng_w (ng_c w hw) with ⟨C, T, rfl⟩ | ⟨x, rfl⟩
    · exact va_Nw.of (A := args) rfl (hts _ (ng_tbl _ hw))
    · exact va_Nw.of (A := args) rfl (hts _ (ng_tbl _ hw))
