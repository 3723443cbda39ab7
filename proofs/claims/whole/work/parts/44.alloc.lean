/-! new cells -/
abbrev vN : Nat → Value := fun _ => .null
abbrev z0 : Nat → Int32 := fun _ => 0
abbrev zj : Nat → Int64 := fun _ => 0
abbrev zo : Nat → Option Nat := fun _ => none
def dl (l : List Nat) : Nat → Nat := fun k => l.getD k 0
theorem fl_cg {ci : Nat} {V V' : Nat → Value} {i : Nat → Int32} {j : Nat → Int64} (h : ∀ k, k < nf ci → kd ci k = 2 → V k = V' k) (hk : ∀ k, k < nf ci → kd ci k ≤ 2) : fl ci V i j = fl ci V' i j := by
  unfold fl
  apply List.map_congr_left
  intro k hm
  have hl := List.mem_range.mp hm
  have h2 := hk k hl
  rcases (show kd ci k = 0 ∨ kd ci k = 1 ∨ kd ci k = 2 by omega) with h0 | h0 | h0
  · rw [h0]; rfl
  · rw [h0]; rfl
  · have h3 := h k hl h0
    rw [h0]
    exact h3
theorem ob_cg {ci : Nat} {V V' : Nat → Value} {i : Nat → Int32} {j : Nat → Int64} (h : ∀ k, k < nf ci → kd ci k = 2 → V k = V' k) (hk : ∀ k, k < nf ci → kd ci k ≤ 2) : ob ci V i j = ob ci V' i j := congrArg (fun f => (Sum.inr (ci, f) : va_E)) (fl_cg h hk)
theorem ac_i : Cond.arrayClass .int ∈ UU := inU (by decide +kernel)
theorem ac_j : Cond.arrayClass .long ∈ UU := inU (by decide +kernel)
theorem ac_b : Cond.arrayClass .byte ∈ UU := inU (by decide +kernel)
theorem ac_z : Cond.arrayClass .boolean ∈ UU := inU (by decide +kernel)
/-- a class of objects that can be made -/
def NEp (own : String) (idx ci : Nat) : Prop := ∃ (C : String) (T : u_T) (ty : Nat → FieldType), vwCl[ci]? = some (C, T, nf ci) ∧ (∀ w ∈ u_ws C T (nf ci), w ∈ UU) ∧ (∀ k, k < nf ci → parseFieldDescriptor (T k).2.2.1 = some (ty k)) ∧ Cond.classLink own idx C ∈ UU ∧ Cond.instantiable C (nf ci) ∈ UU ∧ Cond.initialized C ∈ UU ∧ ∀ j, j < nf ci → defaultValue (ty j) = vp_V (fl ci vN z0 zj) j
def OIp (own : String) (idx : Nat) : Prop := Cond.methodLink own idx objectInit ∈ UU
theorem oi_i : Cond.instanceMethod objectInit ∈ UU := inU (by decide +kernel)
theorem oi_c : Cond.code objectInit ⟨#[0xb1]⟩ 1 none ∈ UU := inU (by decide +kernel)
section ALC
variable {p : Program} {l : Launch} {e : Env} {R : Room} {s : State} {m : MethodId} {args : Array Value} {below : List Frame} {meth : Method} {c : Code} {H : Heap} {locs : List Loc} {cells slots : Nat} {Q : State → Prop}
variable {cc : ByteArray} {pc nL : Nat} {ls : Array Slot} {rest : List Value} {D : va_G} {A : Nat → Prop} {a : Nat} {k : Nat → ClassId} {ws : va_W} {H0 : Heap} {own : String} {idx : Nat} {K : Nat → Nat}
theorem g_new (F : Fx p m c cc nL s args own D k) (hA : ∀ q : Nat, H0.size ≤ q → A q) (hB : Bd D A H0 ws H locs) {ci N : Nat} (hN : nf ci = N) (hL : NEp own idx ci) (hcells : cells + 1 ≤ R.cells) (hslots : slots + N ≤ R.slots) (hdg : decode cc pc = .ok (.new idx, 3))
    (kk : ∀ (q : Nat) (H1 : Heap), Bd D A H0 (ws ++ [(q, ob ci vN z0 zj)]) H1 locs → W p l e R s m args below meth c H1 locs (cells + 1) (slots + N) Q (F0 m (pc + 3) ls (.ref q :: rest))) : W p l e R s m args below meth c H locs cells slots Q (F0 m pc ls rest) := by
  subst hN
  obtain ⟨C, T, ty, h1, h2, h3, h4, h5, h6, h7⟩ := hL
  exact va_new F.x F.b F.t h2 ty h3 F.o (F.t _ h4) (F.t _ h5) (F.t _ h6) F.2 hB.1 hB.2.1 hB.2.2 hA h1 h7 hcells hslots hdg (fun q H1 a1 a2 a3 => kk q H1 ⟨a1, a2, a3⟩)
theorem g_newi (F : Fx p m c cc nL s args own D k) (hA : ∀ q : Nat, H0.size ≤ q → A q) (hB : Bd D A H0 ws H locs) {n : Int32} {N : Nat} (hn : ¬ n < 0) (hN : n.toNatClampNeg = N) (hbt : N * 4 ≤ 536870912) (hcells : cells + 1 ≤ R.cells) (hslots : slots + N ≤ R.slots) (hdg : decode cc pc = .ok (.newarray .int, 2))
    (kk : ∀ (q : Nat) (H1 : Heap), Bd D A H0 (ws ++ [(q, ai k N z0)]) H1 locs → W p l e R s m args below meth c H1 locs (cells + 1) (slots + N) Q (F0 m (pc + 2) ls (.ref q :: rest))) : W p l e R s m args below meth c H locs cells slots Q (F0 m pc ls (.int n :: rest)) := by
  refine va_newa (atype := .int) (ty := .int) (a0 := (N, .inl z0)) F.x F.b (F.t _ ac_i) rfl F.2 hB.1 hB.2.1 hB.2.2 hA (fun _ => rfl) hn hN hbt hcells hslots hdg (fun q cA H1 hK a1 a2 a3 => ?_)
  have hc : cA = k 0 := Option.some.inj ((hK.2 6 (cA, .int) rfl).2.symm.trans (hK.2 0 (k 0, .int) rfl).2)
  subst hc
  exact kk q H1 ⟨a1, a2, a3⟩
theorem g_newj (F : Fx p m c cc nL s args own D k) (hA : ∀ q : Nat, H0.size ≤ q → A q) (hB : Bd D A H0 ws H locs) {n : Int32} {N : Nat} (hn : ¬ n < 0) (hN : n.toNatClampNeg = N) (hbt : N * 8 ≤ 536870912) (hcells : cells + 1 ≤ R.cells) (hslots : slots + N ≤ R.slots) (hdg : decode cc pc = .ok (.newarray .long, 2))
    (kk : ∀ (q : Nat) (H1 : Heap), Bd D A H0 (ws ++ [(q, aj k N zj)]) H1 locs → W p l e R s m args below meth c H1 locs (cells + 1) (slots + N) Q (F0 m (pc + 2) ls (.ref q :: rest))) : W p l e R s m args below meth c H locs cells slots Q (F0 m pc ls (.int n :: rest)) := by
  refine va_newa (atype := .long) (ty := .long) (a0 := (N, .inr (.inl zj))) F.x F.b (F.t _ ac_j) rfl F.2 hB.1 hB.2.1 hB.2.2 hA (fun _ => rfl) hn hN hbt hcells hslots hdg (fun q cA H1 hK a1 a2 a3 => ?_)
  have hc : cA = k 1 := Option.some.inj ((hK.2 6 (cA, .long) rfl).2.symm.trans (hK.2 1 (k 1, .long) rfl).2)
  subst hc
  exact kk q H1 ⟨a1, a2, a3⟩
theorem g_newb (F : Fx p m c cc nL s args own D k) (hA : ∀ q : Nat, H0.size ≤ q → A q) (hB : Bd D A H0 ws H locs) {n : Int32} {N : Nat} (hn : ¬ n < 0) (hN : n.toNatClampNeg = N) (hbt : N * 1 ≤ 536870912) (hcells : cells + 1 ≤ R.cells) (hslots : slots + N ≤ R.slots) (hdg : decode cc pc = .ok (.newarray .byte, 2))
    (kk : ∀ (q : Nat) (H1 : Heap), Bd D A H0 (ws ++ [(q, ab k N z0)]) H1 locs → W p l e R s m args below meth c H1 locs (cells + 1) (slots + N) Q (F0 m (pc + 2) ls (.ref q :: rest))) : W p l e R s m args below meth c H locs cells slots Q (F0 m pc ls (.int n :: rest)) := by
  refine va_newa (atype := .byte) (ty := .byte) (a0 := (N, .inl z0)) F.x F.b (F.t _ ac_b) rfl F.2 hB.1 hB.2.1 hB.2.2 hA (fun _ => rfl) hn hN hbt hcells hslots hdg (fun q cA H1 hK a1 a2 a3 => ?_)
  have hc : cA = k 2 := Option.some.inj ((hK.2 6 (cA, .byte) rfl).2.symm.trans (hK.2 2 (k 2, .byte) rfl).2)
  subst hc
  exact kk q H1 ⟨a1, a2, a3⟩
theorem g_newz (F : Fx p m c cc nL s args own D k) (hA : ∀ q : Nat, H0.size ≤ q → A q) (hB : Bd D A H0 ws H locs) {n : Int32} {N : Nat} (hn : ¬ n < 0) (hN : n.toNatClampNeg = N) (hbt : N * 1 ≤ 536870912) (hcells : cells + 1 ≤ R.cells) (hslots : slots + N ≤ R.slots) (hdg : decode cc pc = .ok (.newarray .boolean, 2))
    (kk : ∀ (q : Nat) (H1 : Heap), Bd D A H0 (ws ++ [(q, az k N z0)]) H1 locs → W p l e R s m args below meth c H1 locs (cells + 1) (slots + N) Q (F0 m (pc + 2) ls (.ref q :: rest))) : W p l e R s m args below meth c H locs cells slots Q (F0 m pc ls (.int n :: rest)) := by
  refine va_newa (atype := .boolean) (ty := .boolean) (a0 := (N, .inl z0)) F.x F.b (F.t _ ac_z) rfl F.2 hB.1 hB.2.1 hB.2.2 hA (fun _ => rfl) hn hN hbt hcells hslots hdg (fun q cA H1 hK a1 a2 a3 => ?_)
  have hc : cA = k 3 := Option.some.inj ((hK.2 6 (cA, .boolean) rfl).2.symm.trans (hK.2 3 (k 3, .boolean) rfl).2)
  subst hc
  exact kk q H1 ⟨a1, a2, a3⟩
theorem ra_eq {U : State} {c1 c2 : ClassId} {C : String} (h1 : va_RA U c1 (.object C)) (h2 : va_RA U c2 (.object C)) : c1 = c2 := by
  obtain ⟨_, _, _, _, _, f1⟩ := h1
  obtain ⟨_, _, _, _, _, f2⟩ := h2
  exact Option.some.inj (f1.symm.trans f2)
theorem g_newR (F : Fx p m c cc nL s args own D k) (hO : va_AO "LongTrain$Row" s) (hcl : Cond.classLink own idx "LongTrain$Row" ∈ UU) (hA : ∀ q : Nat, H0.size ≤ q → A q) (hB : Bd D A H0 ws H locs) {n : Int32} {N : Nat} (hn : ¬ n < 0) (hN : n.toNatClampNeg = N) (hbt : N * 4 ≤ 536870912) (hcells : cells + 1 ≤ R.cells) (hslots : slots + N ≤ R.slots) (hdg : decode cc pc = .ok (.anewarray idx, 3))
    (kk : ∀ (q : Nat) (H1 : Heap), Bd D A H0 (ws ++ [(q, aR k N zo)]) H1 locs → W p l e R s m args below meth c H1 locs (cells + 1) (slots + N) Q (F0 m (pc + 3) ls (.ref q :: rest))) : W p l e R s m args below meth c H locs cells slots Q (F0 m pc ls (.int n :: rest)) := by
  refine va_newq F.x F.b F.o (F.t _ hcl) hO F.2 hB.1 hB.2.1 hB.2.2 hA hn hN hbt hcells hslots hdg (fun q cA H1 hK a1 a2 a3 => ?_)
  have hc : cA = k 4 := ra_eq (hK.2 6 (cA, .object "LongTrain$Row") rfl).2 (hK.2 4 (k 4, .object "LongTrain$Row") rfl).2
  subst hc
  exact kk q H1 ⟨a1, a2, a3⟩
theorem g_newS (F : Fx p m c cc nL s args own D k) (hO : va_AO "LongTrain$State" s) (hcl : Cond.classLink own idx "LongTrain$State" ∈ UU) (hA : ∀ q : Nat, H0.size ≤ q → A q) (hB : Bd D A H0 ws H locs) {n : Int32} {N : Nat} (hn : ¬ n < 0) (hN : n.toNatClampNeg = N) (hbt : N * 4 ≤ 536870912) (hcells : cells + 1 ≤ R.cells) (hslots : slots + N ≤ R.slots) (hdg : decode cc pc = .ok (.anewarray idx, 3))
    (kk : ∀ (q : Nat) (H1 : Heap), Bd D A H0 (ws ++ [(q, aS k N zo)]) H1 locs → W p l e R s m args below meth c H1 locs (cells + 1) (slots + N) Q (F0 m (pc + 3) ls (.ref q :: rest))) : W p l e R s m args below meth c H locs cells slots Q (F0 m pc ls (.int n :: rest)) := by
  refine va_newq F.x F.b F.o (F.t _ hcl) hO F.2 hB.1 hB.2.1 hB.2.2 hA hn hN hbt hcells hslots hdg (fun q cA H1 hK a1 a2 a3 => ?_)
  have hc : cA = k 5 := ra_eq (hK.2 6 (cA, .object "LongTrain$State") rfl).2 (hK.2 5 (k 5, .object "LongTrain$State") rfl).2
  subst hc
  exact kk q H1 ⟨a1, a2, a3⟩
theorem g_astR (F : Fx p m c cc nL s args own D k) (hB : Bd D A H0 ws H locs) (q0 qk : Nat) {n v : Nat} {r : Nat → Option Nat} {vs : List Value} (ha : ws[q0]? = some (a, aR k n r)) (hv : ws[qk]? = some (v, .inr (8, vs))) {x : Int32} (hin : vp_in x n) (ws' : va_W) (hw : ws.set q0 (a, aR k n (va_up r x.toNatClampNeg (some v))) = ws') (hdg : decode cc pc = .ok (.aastore, 1))
    (kk : ∀ (H1 : Heap) (locs1 : List Loc), Bd D A H0 ws' H1 locs1 → W p l e R s m args below meth c H1 locs1 cells slots Q (F0 m (pc + 1) ls rest)) : W p l e R s m args below meth c H locs cells slots Q (F0 m pc ls (.ref v :: .int x :: .ref a :: rest)) :=
  va_astq (r := (RX8, TX8, 12)) F.x F.b F.2 hB.1 hB.2.1 hB.2.2 q0 4 qk 8 ha rfl hv rfl hin hdg (fun H1 locs1 a1 a2 a3 => kk H1 locs1 ⟨hw ▸ a1, hw ▸ a2, a3⟩)
theorem g_astS (F : Fx p m c cc nL s args own D k) (hB : Bd D A H0 ws H locs) (q0 qk : Nat) {n v : Nat} {r : Nat → Option Nat} {vs : List Value} (ha : ws[q0]? = some (a, aS k n r)) (hv : ws[qk]? = some (v, .inr (9, vs))) {x : Int32} (hin : vp_in x n) (ws' : va_W) (hw : ws.set q0 (a, aS k n (va_up r x.toNatClampNeg (some v))) = ws') (hdg : decode cc pc = .ok (.aastore, 1))
    (kk : ∀ (H1 : Heap) (locs1 : List Loc), Bd D A H0 ws' H1 locs1 → W p l e R s m args below meth c H1 locs1 cells slots Q (F0 m (pc + 1) ls rest)) : W p l e R s m args below meth c H locs cells slots Q (F0 m pc ls (.ref v :: .int x :: .ref a :: rest)) :=
  va_astq (r := (RX9, TX9, 3)) F.x F.b F.2 hB.1 hB.2.1 hB.2.2 q0 5 qk 9 ha rfl hv rfl hin hdg (fun H1 locs1 a1 a2 a3 => kk H1 locs1 ⟨hw ▸ a1, hw ▸ a2, a3⟩)
theorem g_obj (F : Fx p m c cc nL s args own D k) (hL : OIp own idx) (hls : ls.size = nL) (hfr : 1 ≤ R.frames) (hlo : (rest.map fun v => v.category).sum + 12 ≤ R.locals) (hdg : decode cc pc = .ok (.invokespecial idx, 3))
    (kk : W p l e R s m args below meth c H locs cells slots Q (F0 m (pc + 3) ls rest)) : W p l e R s m args below meth c H locs cells slots Q (F0 m pc ls (.ref a :: rest)) := by
  refine W.objInit F.x F.b F.o (F.t _ hL) (F.t _ oi_i) (F.t _ oi_c) rfl (by rw [F.ml]; exact hls) rfl hdg hfr (by show 2 * 0 + _ + 12 ≤ _; omega) ?_
  exact W.eq (g2 := F0 m (pc + 3) ls rest) rfl kk
section CALL
variable {y : MethodName} {cd : ByteArray} {n fr lo mc ms : Nat} {b : Nat} {wc wr : va_W}
/-- a constructor's links -/
def ICp (y : MethodName) (cd : ByteArray) (n : Nat) : Prop := Cond.initialized y.cls ∈ UU ∧ Cond.code y cd n none ∈ UU ∧ Cond.instanceMethod y ∈ UU ∧ y.name = "<init>" ∧ (y.cls ≠ "java/lang/invoke/MethodHandle" ∧ y.cls ≠ "java/lang/invoke/VarHandle" ∧ (parseMethodDescriptor y.desc).map (fun d => d.parameters.length) = some 0)
theorem k_in {Qp : va_W → Prop} (F : Fx p m c cc nL s args own D k) (hE : Am K A s s.heap) (hA : ∀ q : Nat, s.heap.size ≤ q → A q) (hB : Bd D A s.heap ws H locs) (hM : CeV l y cd n none fr lo mc ms D k K [.ref b] wc Qp) (hq : (own, idx, y) ∈ NWs) (hI : ICp y cd n) (isC isR : List Nat) (hC : isC.map (fun i => ws[i]?) = wc.map some) (hRs : isR.map (fun i => ws[i]?) = wr.map some) (hnc : va_nd isC = true) (hn : va_nd isR = true) (hdis : ∀ i ∈ isR, i ∉ isC)
    (hls : ls.size = nL) (hW : (rest.map fun v => v.category).sum ≤ 8) (hRm : fr + 1 ≤ R.frames ∧ 8 + (n + 11) + lo ≤ R.locals) (hf : cells + mc ≤ R.cells ∧ slots + ms ≤ R.slots) (hdg : decode cc pc = .ok (.invokespecial idx, 3))
    (kk : ∀ (w1 : va_W) (H1 : Heap) (locs1 : List Loc), Qp w1 → Bd D A s.heap (wr ++ w1) H1 locs1 → W p l e R s m args below meth c H1 locs1 (cells + mc) (slots + ms) Q (F0 m (pc + 3) ls rest)) : W p l e R s m args below meth c H locs cells slots Q (F0 m pc ls (.ref b :: rest)) := by
  obtain ⟨hPc, hDc⟩ := hB.cut isC hnc hC
  have hFc := va_free (wc := wc) hB.2.1 hB.2.2 hA isC hC
  have hnw := hE.2.2.2.2.2.2.1 _ hq
  refine va_callv (va_runIN (As := []) (host := "LongTrain") (rest := rest) F.1 (hM H.size) ⟨va_cnB (rm := { frames := fr, cells := mc, slots := ms, locals := lo }) 0 F.t (good1 hI.2.1) rfl rfl rfl hnw (F.t _ hI.1) hI.2.2.2.2 hRm, hI.2.2.2.1, F.t _ hI.2.2.1⟩ ⟨PreE.blind D k K wc H.size _, fun U hU hW => ⟨⟨rfl, by rw [hU], by rw [hU]; exact hPc, va_K.moved hW.alike F.2, hDc.weaken (fun _ _ _ _ => trivial)⟩, hE.at hB hA isC hC hU hW⟩⟩ rfl rfl hls rfl (lv_room hW) hdg hf) hB.2.2 (fun q _ h => hFc q h) hFc (fun u t H1 locs1 ht hvm hw hW hz1 hk1 hS1 => ?_)
  subst ht
  exact kk u _ _ hw (hB.join hA isC isR hC hRs hn hdis hk1 hW.1 hW.2.2 hS1)
theorem k_ip {Qp : va_W → Prop} (F : Fx p m c cc nL s args own D k) (hE : Am K A s s.heap) (hA : ∀ q : Nat, s.heap.size ≤ q → A q) (hB : Bd D A s.heap ws H locs) (hM : CeV l y cd n none fr lo mc ms D k K [.ref b] wc Qp) (hq : Cond.methodLink own idx y ∈ UU) (hI : ICp y cd n) (isC isR : List Nat) (hC : isC.map (fun i => ws[i]?) = wc.map some) (hRs : isR.map (fun i => ws[i]?) = wr.map some) (hnc : va_nd isC = true) (hn : va_nd isR = true) (hdis : ∀ i ∈ isR, i ∉ isC)
    (hls : ls.size = nL) (hW : (rest.map fun v => v.category).sum ≤ 8) (hRm : fr + 1 ≤ R.frames ∧ 8 + (n + 11) + lo ≤ R.locals) (hf : cells + mc ≤ R.cells ∧ slots + ms ≤ R.slots) (hdg : decode cc pc = .ok (.invokespecial idx, 3))
    (kk : ∀ (w1 : va_W) (H1 : Heap) (locs1 : List Loc), Qp w1 → Bd D A s.heap (wr ++ w1) H1 locs1 → W p l e R s m args below meth c H1 locs1 (cells + mc) (slots + ms) Q (F0 m (pc + 3) ls rest)) : W p l e R s m args below meth c H locs cells slots Q (F0 m pc ls (.ref b :: rest)) := by
  obtain ⟨hPc, hDc⟩ := hB.cut isC hnc hC
  have hFc := va_free (wc := wc) hB.2.1 hB.2.2 hA isC hC
  refine va_callv (va_runI (As := []) (rest := rest) F.1 (hM H.size) ⟨callB_of (rm := { frames := fr, cells := mc, slots := ms, locals := lo }) 0 F.t (good1 hI.2.1) rfl rfl rfl (F.t _ hI.1) (F.t _ hq) hI.2.2.2.2 hRm, hI.2.2.2.1, F.t _ hI.2.2.1⟩ ⟨PreE.blind D k K wc H.size _, fun U hU hW => ⟨⟨rfl, by rw [hU], by rw [hU]; exact hPc, va_K.moved hW.alike F.2, hDc.weaken (fun _ _ _ _ => trivial)⟩, hE.at hB hA isC hC hU hW⟩⟩ rfl rfl hls rfl (lv_room hW) hdg hf) hB.2.2 (fun q _ h => hFc q h) hFc (fun u t H1 locs1 ht hvm hw hW hz1 hk1 hS1 => ?_)
  subst ht
  exact kk u _ _ hw (hB.join hA isC isR hC hRs hn hdis hk1 hW.1 hW.2.2 hS1)
end CALL
end ALC
