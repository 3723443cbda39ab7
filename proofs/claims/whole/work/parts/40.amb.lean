/-! what stands around the worlds: the String constant, statics, links within the nest -/
def KWs : String := "slope  halt   loop   wagon  adds   engine rub    sand   wear   walk   train  go     help   off    cut    rest   "
def KWb : List Int32 := [115, 108, 111, 112, 101, 32, 32, 104, 97, 108, 116, 32, 32, 32, 108, 111, 111, 112, 32, 32, 32, 119, 97, 103, 111, 110, 32, 32, 97, 100, 100, 115, 32, 32, 32, 101, 110, 103, 105, 110, 101, 32, 114, 117, 98, 32, 32, 32, 32, 115, 97, 110, 100, 32, 32, 32, 119, 101, 97, 114, 32, 32, 32, 119, 97, 108, 107, 32, 32, 32, 116, 114, 97, 105, 110, 32, 32, 103, 111, 32, 32, 32, 32, 32, 104, 101, 108, 112, 32, 32, 32, 111, 102, 102, 32, 32, 32, 32, 99, 117, 116, 32, 32, 32, 32, 114, 101, 115, 116, 32, 32, 32]
def NWs : List (String × Nat × MethodName) := [("LongTrain", 15, yX4_init), ("LongTrain$LineReader", 11, yX7_init), ("LongTrain", 22, yX7_init), ("LongTrain", 29, yX9_init), ("LongTrain$State", 18, yX6_init), ("LongTrain$State", 25, yX10_init), ("LongTrain$Train", 11, yX8_init), ("LongTrain$Train", 20, yX1_init), ("LongTrain", 47, yX6_init), ("LongTrain", 54, yX0_init), ("LongTrain$Free", 11, yX8_init), ("LongTrain", 61, yX5_init), ("LongTrain$Lives", 11, yX8_init), ("LongTrain", 68, yX2_init), ("LongTrain", 75, yX10_init)]
def NSE : String := "java/util/NoSuchElementException"
def NSn : List String := ["java/lang/RuntimeException", "java/lang/Exception"]
def isCst : Cond → Bool := fun w => match w with | .castable .. => true | .declares _ => true | _ => false
def NGx : List Cond := (vx_at0 RX11 126 NSE NSn).filter (fun w => !goodWord w)
theorem ng_c : ∀ w ∈ NGx, isCst w = true := by decide +kernel
theorem ng_w {w : Cond} (h : isCst w = true) : (∃ C T, w = .castable C T) ∨ ∃ x, w = .declares x := by
  cases w <;> first | exact Or.inl ⟨_, _, rfl⟩ | exact Or.inr ⟨_, rfl⟩ | cases h
theorem ng_tbl : ∀ w ∈ NGx, w ∈ lw_tbl := by decide +kernel
theorem ng_nse : Cond.castable NSE NSE ∈ NGx := by decide +kernel
theorem tx_good : ∀ w ∈ (vx_at0 RX11 126 NSE NSn).filter goodWord, w ∈ UU := inUs (by decide +kernel)
theorem tx_ot : ∀ w ∈ Cond.classLink RX11 124 NSE :: Cond.initialized NSE :: vx_at0 RX11 126 NSE NSn, vx_ot w = true := by decide +kernel
theorem tx_cl : Cond.classLink RX11 124 NSE ∈ UU := inU (by decide +kernel)
theorem tx_in : Cond.initialized NSE ∈ UU := inU (by decide +kernel)
theorem ng_warm {s U : State} (hW : s.WarmedH U.vm) {w : Cond} (hw : w ∈ NGx) (h : va_Nw w s) : va_Nw w U := by
  rcases ng_w (ng_c w hw) with ⟨C, T, rfl⟩ | ⟨x, rfl⟩
  · exact h.warmC hW
  · exact h.warmD hW
theorem ng_same {s U : State} (hv : s.vm = U.vm) {w : Cond} (hw : w ∈ NGx) (h : va_Nw w s) : va_Nw w U := by
  rcases ng_w (ng_c w hw) with ⟨C, T, rfl⟩ | ⟨x, rfl⟩
  · exact va_Nw.same rfl hv h
  · exact va_Nw.same rfl hv h
def Am (K : Nat → Nat) (A : Nat → Prop) (U : State) (H : Heap) : Prop :=
  vk_R RX7 71 KWs (K 0) U ∧ vk_S 1 [112] [KWb] (fun _ => K 0) (fun _ => K 1) A U H ∧ va_Z "java/lang/String" "COMPACT_STRINGS" "Z" (.int 1) A U H ∧ va_Zq "jdk/internal/util/Preconditions" "SIOOBE_FORMATTER" "Ljava/util/function/BiFunction;" A U H ∧ vx_Zq Bundle.tN "UNASSIGNED_STACK" Bundle.steD A U H ∧ vx_Zq Bundle.tN "SUPPRESSED_SENTINEL" Bundle.listD A U H ∧ (∀ q ∈ NWs, va_Nw (.methodLinkNest q.1 q.2.1 q.2.2 "LongTrain") U) ∧ (∀ w ∈ NGx, va_Nw w U) ∧ va_AO "LongTrain$Row" U ∧ va_AO "LongTrain$State" U
theorem Am.warm {K : Nat → Nat} {A : Nat → Prop} {s U : State} {H : Heap} (hW : s.WarmedH U.vm) (h : Am K A s H) : Am K A U H := by
  obtain ⟨h1, h2, h3, h4, h5, h6, h7, h8, h9, h10⟩ := h
  exact ⟨h1.warm hW, h2.moved hW.alike, h3.moved hW.alike, h4.moved hW.alike, h5.moved hW.alike, h6.moved hW.alike, fun q hq => (h7 q hq).warmM hW, fun w hw => ng_warm hW hw (h8 w hw), h9.moved hW.alike, h10.moved hW.alike⟩
theorem Am.same {K : Nat → Nat} {A : Nat → Prop} {u U : State} {H : Heap} (hv : U.vm = u.vm) (h : Am K A u H) : Am K A U H := by
  have ha : u.vm.Alike U.vm := hv ▸ Vm.Alike.refl u.vm
  obtain ⟨h1, h2, h3, h4, h5, h6, h7, h8, h9, h10⟩ := h
  exact ⟨h1.same hv, h2.moved ha, h3.moved ha, h4.moved ha, h5.moved ha, h6.moved ha, fun q hq => va_Nw.same rfl hv.symm (h7 q hq), fun w hw => ng_same hv.symm hw (h8 w hw), h9.moved ha, h10.moved ha⟩
theorem Am.kept {K : Nat → Nat} {A : Nat → Prop} {U : State} {H H1 : Heap} (hq : ∀ a : Nat, a < H.size → ¬ A a → H1[a]? = H[a]?) (h : Am K A U H) : Am K A U H1 := by
  obtain ⟨h1, h2, h3, h4, h5, h6, h7⟩ := h
  exact ⟨h1, h2.kept hq, h3.kept hq, h4.kept hq, h5.kept hq, h6.kept hq, h7⟩
theorem Am.narrow {K : Nat → Nat} {A B : Nat → Prop} {U : State} {H : Heap} (hAB : ∀ q, B q → A q) (h : Am K A U H) : Am K B U H := by
  obtain ⟨h1, h2, h3, h4, h5, h6, h7⟩ := h
  exact ⟨h1, h2.narrow hAB, h3.narrow hAB, h4.narrow hAB, h5.narrow hAB, h6.narrow hAB, h7⟩
section AMB
variable {p : Program} {l : Launch} {e : Env} {R : Room} {s : State} {m : MethodId} {args : Array Value} {below : List Frame} {meth : Method} {c : Code} {H : Heap} {locs : List Loc} {cells slots : Nat} {Q : State → Prop}
variable {cc : ByteArray} {pc nL : Nat} {ls : Array Slot} {rest : List Value} {D : va_G} {A : Nat → Prop} {a : Nat} {k : Nat → ClassId} {ws : va_W} {own : String} {idx : Nat} {K : Nat → Nat}
def PreE (D : va_G) (k : Nat → ClassId) (K : Nat → Nat) (ws : va_W) (sz : Nat) (av : List Value) : Array Value → State → Prop := fun a U => Pre D k ws sz av a U ∧ Am K (va_A ws sz) U U.heap
theorem PreE.blind (D : va_G) (k : Nat → ClassId) (K : Nat → Nat) (ws : va_W) (sz : Nat) (av : List Value) : FrameBlind (PreE D k K ws sz av) := fun a U g mk q => ⟨Pre.blind D k ws sz av a U g mk q.1, Am.same (u := U) (U := U.calling g mk a) rfl q.2⟩
def CeI (l : Launch) (y : MethodName) (cd : ByteArray) (n : Nat) (ret : Option FieldType) (fr lo mc ms : Nat) (D : va_G) (k : Nat → ClassId) (K : Nat → Nat) (av : List Value) (ws : va_W) (Qp : Int32 → va_W → Prop) : Prop :=
  ∀ sz : Nat, Met l y (.code y cd n ret :: UU) { frames := fr, cells := mc, slots := ms, locals := lo } (PreE D k K ws sz av) (va_Qi Qp (Wt D k (va_A ws sz)) (va_A ws sz)) mc ms (va_A ws sz)
def CeV (l : Launch) (y : MethodName) (cd : ByteArray) (n : Nat) (ret : Option FieldType) (fr lo mc ms : Nat) (D : va_G) (k : Nat → ClassId) (K : Nat → Nat) (av : List Value) (ws : va_W) (Qp : va_W → Prop) : Prop :=
  ∀ sz : Nat, Met l y (.code y cd n ret :: UU) { frames := fr, cells := mc, slots := ms, locals := lo } (PreE D k K ws sz av) (va_Qv Qp (Wt D k (va_A ws sz)) (va_A ws sz)) mc ms (va_A ws sz)
theorem CeI.of {y : MethodName} {cd : ByteArray} {n : Nat} {ret : Option FieldType} {fr lo mc ms : Nat} {av : List Value} {Qp : Int32 → va_W → Prop} (hy : plainName y.cls = true) (hn : (lg_sl av).length ≤ n)
    (body : ∀ (p : Program) (e : Env) (s : State) (m : MethodId) (below : List Frame) (meth : Method) (c : Code) (A : Nat → Prop), Fx p m c cd n s av.toArray y.cls D k → meth.sig.returnType = ret → meth.locks = false → meth.name = y.name → (∀ q : Nat, s.heap.size ≤ q → A q) → Am K A s s.heap → Bd D A s.heap ws s.heap [] → ∀ ls : Array Slot, lv_has ls n (lv_args 0 av) → W p l e { frames := fr, cells := mc, slots := ms, locals := lo } s m av.toArray below meth c s.heap [] 0 0 (Ei below Qp D k A av.toArray s mc ms) (F0 m 0 ls [])) : CeI l y cd n ret fr lo mc ms D k K av ws Qp := by
  intro sz
  refine Met.ofW (cc := cd) (maxL := n) (ret := ret) hy rfl ?_
  intro p e s m args below meth c s₁ B hml hv
  obtain ⟨⟨rfl, hsz, hP, hK, hD0⟩, hE⟩ := hv
  subst hsz
  have hts := atoms_spec (ws := .code y cd n ret :: UU) B.pre
  have hl := lv_entry av (n := n) hn
  rw [lg_entry_eq]
  exact body p e s m below meth c (va_A ws s.heap.size) ⟨⟨B.exec, B.bytes, hml, findClass_of_methodNamed B.named, fun w h => hts w (List.mem_cons_of_mem _ h)⟩, hK⟩ B.returns B.notSynchronized (name_of_methodNamed B.named B.method).1 (fun q h => Or.inr h) hE ⟨hP, hD0.self, va_S.rf⟩ _ hl
theorem CeV.of {y : MethodName} {cd : ByteArray} {n : Nat} {ret : Option FieldType} {fr lo mc ms : Nat} {av : List Value} {Qp : va_W → Prop} (hy : plainName y.cls = true) (hn : (lg_sl av).length ≤ n)
    (body : ∀ (p : Program) (e : Env) (s : State) (m : MethodId) (below : List Frame) (meth : Method) (c : Code) (A : Nat → Prop), Fx p m c cd n s av.toArray y.cls D k → meth.sig.returnType = ret → meth.locks = false → meth.name = y.name → (∀ q : Nat, s.heap.size ≤ q → A q) → Am K A s s.heap → Bd D A s.heap ws s.heap [] → ∀ ls : Array Slot, lv_has ls n (lv_args 0 av) → W p l e { frames := fr, cells := mc, slots := ms, locals := lo } s m av.toArray below meth c s.heap [] 0 0 (Ev below Qp D k A av.toArray s mc ms) (F0 m 0 ls [])) : CeV l y cd n ret fr lo mc ms D k K av ws Qp := by
  intro sz
  refine Met.ofW (cc := cd) (maxL := n) (ret := ret) hy rfl ?_
  intro p e s m args below meth c s₁ B hml hv
  obtain ⟨⟨rfl, hsz, hP, hK, hD0⟩, hE⟩ := hv
  subst hsz
  have hts := atoms_spec (ws := .code y cd n ret :: UU) B.pre
  have hl := lv_entry av (n := n) hn
  rw [lg_entry_eq]
  exact body p e s m below meth c (va_A ws s.heap.size) ⟨⟨B.exec, B.bytes, hml, findClass_of_methodNamed B.named, fun w h => hts w (List.mem_cons_of_mem _ h)⟩, hK⟩ B.returns B.notSynchronized (name_of_methodNamed B.named B.method).1 (fun q h => Or.inr h) hE ⟨hP, hD0.self, va_S.rf⟩ _ hl
/-- the surroundings at a call -/
theorem Am.at {wc : va_W} {U : State} (hE : Am K A s s.heap) (hB : Bd D A s.heap ws H locs) (hA : ∀ q : Nat, s.heap.size ≤ q → A q) (isC : List Nat) (hC : isC.map (fun i => ws[i]?) = wc.map some) (hU : U.heap = H) (hW : s.WarmedH U.vm) : Am K (va_A wc H.size) U U.heap := by
  rw [hU]
  exact ((hE.kept (fun a h1 h2 => hB.2.2.2.1 a h1 h2)).narrow (va_free (wc := wc) hB.2.1 hB.2.2 hA isC hC)).warm hW
section CALL
variable {y : MethodName} {cd : ByteArray} {n : Nat} {ret : Option FieldType} {np fr lo mc ms : Nat} {As : List Value} {b : Nat} {st0 : List Value} {wc wr : va_W}
theorem rcv (F : Fx p m c cc nL s args own D k) (hB : Bd D A s.heap ws H locs) (q0 : Nat) {ci : Nat} {fs : List Value} (hq0 : ws[q0]? = some (b, .inr (ci, fs))) (hci : (vwCl[ci]?).map (fun q => q.1) = some y.cls) : ∃ cell : Cell, H[b]? = some cell ∧ cell.vm.isStatics = false ∧ s.vm.findClass y.cls = some cell.cls := by
  obtain ⟨q, hq⟩ : ∃ q, vwCl[ci]? = some q := by
    cases h : vwCl[ci]? with
    | none => rw [h] at hci; cases hci
    | some q => exact ⟨q, rfl⟩
  have h2 := va_recv F.2 hB.1 hq hq0
  rw [hq] at hci
  have h3 : q.1 = y.cls := Option.some.inj hci
  rw [h3] at h2
  exact h2
theorem ke_vi {Qp : Int32 → va_W → Prop} (F : Fx p m c cc nL s args own D k) (hE : Am K A s s.heap) (hA : ∀ q : Nat, s.heap.size ≤ q → A q) (hB : Bd D A s.heap ws H locs) (hM : CeI l y cd n ret fr lo mc ms D k K (.ref b :: As) wc Qp) (hL : MLp own idx y cd n ret np) (hV : MVp y) (isC isR : List Nat) (hC : isC.map (fun i => ws[i]?) = wc.map some) (hRs : isR.map (fun i => ws[i]?) = wr.map some) (hnc : va_nd isC = true) (hn : va_nd isR = true) (hdis : ∀ i ∈ isR, i ∉ isC)
    (hrv : ∃ cell : Cell, H[b]? = some cell ∧ cell.vm.isStatics = false ∧ s.vm.findClass y.cls = some cell.cls) (hnp : As.length = np) (hls : ls.size = nL) (hst : st0 = As.reverse ++ .ref b :: rest) (hW : (rest.map fun v => v.category).sum ≤ 8) (hRm : fr + 1 ≤ R.frames ∧ 8 + (n + 11) + lo ≤ R.locals) (hf : cells + mc ≤ R.cells ∧ slots + ms ≤ R.slots) (hdg : decode cc pc = .ok (.invokevirtual idx, 3))
    (kk : ∀ (r : Int32) (w1 : va_W) (H1 : Heap) (locs1 : List Loc), Qp r w1 → Bd D A s.heap (wr ++ w1) H1 locs1 → W p l e R s m args below meth c H1 locs1 (cells + mc) (slots + ms) Q (F0 m (pc + 3) ls (.int r :: rest))) : W p l e R s m args below meth c H locs cells slots Q (F0 m pc ls st0) := by
  obtain ⟨hPc, hDc⟩ := hB.cut isC hnc hC
  have hFc := va_free (wc := wc) hB.2.1 hB.2.2 hA isC hC
  subst hst
  refine va_calli (va_runV (C := y.cls) (rest := rest) F.1 (hM H.size) ⟨hL.cb F hRm, F.t _ hV.1, F.t _ hV.2⟩ ⟨PreE.blind D k K wc H.size _, hrv, fun U hU hW => ⟨⟨rfl, by rw [hU], by rw [hU]; exact hPc, va_K.moved hW.alike F.2, hDc.weaken (fun _ _ _ _ => trivial)⟩, hE.at hB hA isC hC hU hW⟩⟩ rfl hnp hls rfl (lv_room hW) hdg hf) hB.2.2 (fun q _ h => hFc q h) hFc (fun r u t H1 locs1 ht hvm hw hW hz1 hk1 hS1 => ?_)
  subst ht
  exact kk r u _ _ hw (hB.join hA isC isR hC hRs hn hdis hk1 hW.1 hW.2.2 hS1)
theorem ke_vv {Qp : va_W → Prop} (F : Fx p m c cc nL s args own D k) (hE : Am K A s s.heap) (hA : ∀ q : Nat, s.heap.size ≤ q → A q) (hB : Bd D A s.heap ws H locs) (hM : CeV l y cd n ret fr lo mc ms D k K (.ref b :: As) wc Qp) (hL : MLp own idx y cd n ret np) (hV : MVp y) (isC isR : List Nat) (hC : isC.map (fun i => ws[i]?) = wc.map some) (hRs : isR.map (fun i => ws[i]?) = wr.map some) (hnc : va_nd isC = true) (hn : va_nd isR = true) (hdis : ∀ i ∈ isR, i ∉ isC)
    (hrv : ∃ cell : Cell, H[b]? = some cell ∧ cell.vm.isStatics = false ∧ s.vm.findClass y.cls = some cell.cls) (hnp : As.length = np) (hls : ls.size = nL) (hst : st0 = As.reverse ++ .ref b :: rest) (hW : (rest.map fun v => v.category).sum ≤ 8) (hRm : fr + 1 ≤ R.frames ∧ 8 + (n + 11) + lo ≤ R.locals) (hf : cells + mc ≤ R.cells ∧ slots + ms ≤ R.slots) (hdg : decode cc pc = .ok (.invokevirtual idx, 3))
    (kk : ∀ (w1 : va_W) (H1 : Heap) (locs1 : List Loc), Qp w1 → Bd D A s.heap (wr ++ w1) H1 locs1 → W p l e R s m args below meth c H1 locs1 (cells + mc) (slots + ms) Q (F0 m (pc + 3) ls rest)) : W p l e R s m args below meth c H locs cells slots Q (F0 m pc ls st0) := by
  obtain ⟨hPc, hDc⟩ := hB.cut isC hnc hC
  have hFc := va_free (wc := wc) hB.2.1 hB.2.2 hA isC hC
  subst hst
  refine va_callv (va_runV (C := y.cls) (rest := rest) F.1 (hM H.size) ⟨hL.cb F hRm, F.t _ hV.1, F.t _ hV.2⟩ ⟨PreE.blind D k K wc H.size _, hrv, fun U hU hW => ⟨⟨rfl, by rw [hU], by rw [hU]; exact hPc, va_K.moved hW.alike F.2, hDc.weaken (fun _ _ _ _ => trivial)⟩, hE.at hB hA isC hC hU hW⟩⟩ rfl hnp hls rfl (lv_room hW) hdg hf) hB.2.2 (fun q _ h => hFc q h) hFc (fun u t H1 locs1 ht hvm hw hW hz1 hk1 hS1 => ?_)
  subst ht
  exact kk u _ _ hw (hB.join hA isC isR hC hRs hn hdis hk1 hW.1 hW.2.2 hS1)
theorem ke_si {Qp : Int32 → va_W → Prop} (F : Fx p m c cc nL s args own D k) (hE : Am K A s s.heap) (hA : ∀ q : Nat, s.heap.size ≤ q → A q) (hB : Bd D A s.heap ws H locs) (hM : CeI l y cd n ret fr lo mc ms D k K As wc Qp) (hL : MLp own idx y cd n ret np) (hV : Cond.static y ∈ UU) (isC isR : List Nat) (hC : isC.map (fun i => ws[i]?) = wc.map some) (hRs : isR.map (fun i => ws[i]?) = wr.map some) (hnc : va_nd isC = true) (hn : va_nd isR = true) (hdis : ∀ i ∈ isR, i ∉ isC)
    (hnp : As.length = np) (hls : ls.size = nL) (hst : st0 = As.reverse ++ rest) (hW : (rest.map fun v => v.category).sum ≤ 8) (hRm : fr + 1 ≤ R.frames ∧ 8 + (n + 11) + lo ≤ R.locals) (hf : cells + mc ≤ R.cells ∧ slots + ms ≤ R.slots) (hdg : decode cc pc = .ok (.invokestatic idx, 3))
    (kk : ∀ (r : Int32) (w1 : va_W) (H1 : Heap) (locs1 : List Loc), Qp r w1 → Bd D A s.heap (wr ++ w1) H1 locs1 → W p l e R s m args below meth c H1 locs1 (cells + mc) (slots + ms) Q (F0 m (pc + 3) ls (.int r :: rest))) : W p l e R s m args below meth c H locs cells slots Q (F0 m pc ls st0) := by
  obtain ⟨hPc, hDc⟩ := hB.cut isC hnc hC
  have hFc := va_free (wc := wc) hB.2.1 hB.2.2 hA isC hC
  subst hst
  refine va_calli (va_runS (rest := rest) F.1 (hM H.size) ⟨hL.cb F hRm, F.t _ hV⟩ ⟨PreE.blind D k K wc H.size _, fun U hU hW => ⟨⟨rfl, by rw [hU], by rw [hU]; exact hPc, va_K.moved hW.alike F.2, hDc.weaken (fun _ _ _ _ => trivial)⟩, hE.at hB hA isC hC hU hW⟩⟩ rfl hnp hls rfl (lv_room hW) hdg hf) hB.2.2 (fun q _ h => hFc q h) hFc (fun r u t H1 locs1 ht hvm hw hW hz1 hk1 hS1 => ?_)
  subst ht
  exact kk r u _ _ hw (hB.join hA isC isR hC hRs hn hdis hk1 hW.1 hW.2.2 hS1)
theorem ke_sv {Qp : va_W → Prop} (F : Fx p m c cc nL s args own D k) (hE : Am K A s s.heap) (hA : ∀ q : Nat, s.heap.size ≤ q → A q) (hB : Bd D A s.heap ws H locs) (hM : CeV l y cd n ret fr lo mc ms D k K As wc Qp) (hL : MLp own idx y cd n ret np) (hV : Cond.static y ∈ UU) (isC isR : List Nat) (hC : isC.map (fun i => ws[i]?) = wc.map some) (hRs : isR.map (fun i => ws[i]?) = wr.map some) (hnc : va_nd isC = true) (hn : va_nd isR = true) (hdis : ∀ i ∈ isR, i ∉ isC)
    (hnp : As.length = np) (hls : ls.size = nL) (hst : st0 = As.reverse ++ rest) (hW : (rest.map fun v => v.category).sum ≤ 8) (hRm : fr + 1 ≤ R.frames ∧ 8 + (n + 11) + lo ≤ R.locals) (hf : cells + mc ≤ R.cells ∧ slots + ms ≤ R.slots) (hdg : decode cc pc = .ok (.invokestatic idx, 3))
    (kk : ∀ (w1 : va_W) (H1 : Heap) (locs1 : List Loc), Qp w1 → Bd D A s.heap (wr ++ w1) H1 locs1 → W p l e R s m args below meth c H1 locs1 (cells + mc) (slots + ms) Q (F0 m (pc + 3) ls rest)) : W p l e R s m args below meth c H locs cells slots Q (F0 m pc ls st0) := by
  obtain ⟨hPc, hDc⟩ := hB.cut isC hnc hC
  have hFc := va_free (wc := wc) hB.2.1 hB.2.2 hA isC hC
  subst hst
  refine va_callv (va_runS (rest := rest) F.1 (hM H.size) ⟨hL.cb F hRm, F.t _ hV⟩ ⟨PreE.blind D k K wc H.size _, fun U hU hW => ⟨⟨rfl, by rw [hU], by rw [hU]; exact hPc, va_K.moved hW.alike F.2, hDc.weaken (fun _ _ _ _ => trivial)⟩, hE.at hB hA isC hC hU hW⟩⟩ rfl hnp hls rfl (lv_room hW) hdg hf) hB.2.2 (fun q _ h => hFc q h) hFc (fun u t H1 locs1 ht hvm hw hW hz1 hk1 hS1 => ?_)
  subst ht
  exact kk u _ _ hw (hB.join hA isC isR hC hRs hn hdis hk1 hW.1 hW.2.2 hS1)
end CALL
end AMB
