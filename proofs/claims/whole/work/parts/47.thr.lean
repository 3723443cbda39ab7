/-! methods that may throw the exception of the document -/
def Xc (D : va_G) (k : Nat → ClassId) (ws : va_W) (X : Prop) (A : Nat → Prop) : String → State → State → Prop := vx_X (S := Unit) (fun _ => X) (fun E _ t => E = NSE ∧ Wt D k A ws t) A
def CxI (l : Launch) (y : MethodName) (cd : ByteArray) (n : Nat) (ret : Option FieldType) (fr lo : Nat) (D : va_G) (k : Nat → ClassId) (K : Nat → Nat) (av : List Value) (ws : va_W) (Qp : Int32 → va_W → Prop) (X : Prop) : Prop :=
  ∀ sz : Nat, vx_Met l y (.code y cd n ret :: UU) { frames := fr, cells := 1, slots := 6, locals := lo } (PreE D k K ws sz av) (va_Qi Qp (Wt D k (va_A ws sz)) (va_A ws sz)) (Xc D k ws X (va_A ws sz)) 1 6 (va_A ws sz)
abbrev Ex (below : List Frame) (Qp : Int32 → va_W → Prop) (X : Prop) (ws : va_W) (D : va_G) (k : Nat → ClassId) (A : Nat → Prop) (args : Array Value) (s : State) : State → Prop := vx_MQ below (va_Qi Qp (Wt D k A) A) (Xc D k ws X A) args s 1 6 A
section THR
variable {p : Program} {l : Launch} {e : Env} {R : Room} {s : State} {m : MethodId} {args : Array Value} {below : List Frame} {meth : Method} {c : Code} {H : Heap} {locs : List Loc} {cells slots : Nat} {Q : State → Prop}
variable {cc : ByteArray} {pc nL : Nat} {ls : Array Slot} {rest : List Value} {D : va_G} {A : Nat → Prop} {a : Nat} {k : Nat → ClassId} {ws w0 : va_W} {own : String} {idx : Nat} {K : Nat → Nat} {X : Prop}
theorem CxI.of {y : MethodName} {cd : ByteArray} {n : Nat} {ret : Option FieldType} {fr lo : Nat} {av : List Value} {Qp : Int32 → va_W → Prop} (hy : plainName y.cls = true) (hn : (lg_sl av).length ≤ n)
    (body : ∀ (p : Program) (e : Env) (s : State) (m : MethodId) (below : List Frame) (meth : Method) (c : Code) (A : Nat → Prop), Fx p m c cd n s av.toArray y.cls D k → meth.sig.returnType = ret → meth.locks = false → (∀ q : Nat, s.heap.size ≤ q → A q) → Am K A s s.heap → (∀ x ∈ c.exceptionTable.toList, False) → Bd D A s.heap ws s.heap [] → ∀ ls : Array Slot, lv_has ls n (lv_args 0 av) → W p l e { frames := fr, cells := 1, slots := 6, locals := lo } s m av.toArray below meth c s.heap [] 0 0 (Ex below Qp X ws D k A av.toArray s) (F0 m 0 ls [])) : CxI l y cd n ret fr lo D k K av ws Qp X := by
  intro sz
  refine vx_ofW (cc := cd) (maxL := n) (ret := ret) hy rfl ?_
  intro p e s m args below meth c s₁ B hml hno hv
  obtain ⟨⟨rfl, hsz, hP, hK, hD0⟩, hE⟩ := hv
  subst hsz
  have hts := atoms_spec (ws := .code y cd n ret :: UU) B.pre
  have hl := lv_entry av (n := n) hn
  rw [lg_entry_eq]
  exact body p e s m below meth c (va_A ws s.heap.size) ⟨⟨B.exec, B.bytes, hml, findClass_of_methodNamed B.named, fun w h => hts w (List.mem_cons_of_mem _ h)⟩, hK⟩ B.returns B.notSynchronized (fun q h => Or.inr h) hE hno ⟨hP, hD0.self, va_S.rf⟩ _ hl
theorem rx_i {Qp : Int32 → va_W → Prop} {v : Int32} (F : Fx p m c cc nL s args own D k) (hr : meth.sig.returnType = some .int) (hlocks : meth.locks = false) (hB : Bd D A s.heap ws H locs) (hq : Qp v ws) (h1 : cells ≤ 1) (h2 : slots ≤ 6) (hdg : decode cc pc = .ok (.ireturn, 1)) : W p l e R s m args below meth c H locs cells slots (Ex below Qp X w0 D k A args s) (F0 m pc ls [.int v]) :=
  W.widen h1 h2 (vx_ret (r_i F hr hlocks hB hq hdg))
theorem ng_use (hE : Am K A s s.heap) : ∀ w ∈ NGx, w.before args s = true := by
  intro w hw
  have h := hE.2.2.2.2.2.2.2.1 w hw
  rcases ng_w (ng_c w hw) with ⟨C, T, rfl⟩ | ⟨x, rfl⟩
  · exact va_Nw.use rfl h
  · exact va_Nw.use rfl h
theorem rx_t {Qp : Int32 → va_W → Prop} (hst : l.stackTraces = false) (F : Fx p m c cc nL s args RX11 D k) (hlk : meth.locks = false) (hE : Am K A s s.heap) (hno : ∀ x ∈ c.exceptionTable.toList, False) (hB : Bd D A s.heap ws H locs) (hX : X) (hls : ls.size = nL) (d0 : decode cc pc = .ok (.new 124, 3)) (d3 : decode cc (pc + 3) = .ok (.dup, 1)) (d4 : decode cc (pc + 4) = .ok (.invokespecial 126, 3)) (d7 : decode cc (pc + 7) = .ok (.athrow, 1))
    (hRf : 5 < R.frames) (hRl : (rest.map fun v => v.category).sum + 81 ≤ R.locals) (hRc : cells + 1 ≤ R.cells) (hRs : slots + 6 ≤ R.slots) (hc : cells + 1 ≤ 1) (hs : slots + 6 ≤ 6) : W p l e R s m args below meth c H locs cells slots (Ex below Qp X ws D k A args s) (F0 m pc ls rest) := by
  refine vx_throw0 (ik := 124) (ic := 126) (cls := NSE) (names := NSn) F.x F.b hst F.o (by decide +kernel) (by decide +kernel) (F.t _ tx_cl) (F.t _ tx_in) (vx_hat (B := NGx) (fun w hw => F.t _ (tx_good w hw)) (fun w hw => hw) (ng_use hE)) tx_ot hE.2.2.2.2.1 hE.2.2.2.2.2.1 hB.2.2 (by rw [F.ml]; exact hls) d0 d3 d4 d7 (fun x hx => (hno x hx).elim) hRf hRl hRc hRs hlk ?_ hB.2.2.2.2 hc hs
  intro t hvm hz hk
  refine ⟨(), hX, ⟨rfl, hB.1.kept (fun j q hj => hk q.1 (hB.1 j q hj).lt), va_K.moved hvm F.2, hB.2.1⟩, Nat.le_trans hB.2.2.1 hz, fun q h1 h2 => ?_⟩
  rw [hk q (Nat.lt_of_lt_of_le h1 hB.2.2.1)]
  exact hB.2.2.2.1 q h1 h2
section CALL
variable {y : MethodName} {cd : ByteArray} {n : Nat} {ret : Option FieldType} {np fr lo : Nat} {As : List Value} {b : Nat} {st0 : List Value} {wc wr : va_W} {Y : Prop}
theorem kx_vi {Qp : Int32 → va_W → Prop} (F : Fx p m c cc nL s args own D k) (hE : Am K A s s.heap) (hA : ∀ q : Nat, s.heap.size ≤ q → A q) (hB : Bd D A s.heap ws H locs) (hM : CxI l y cd n ret fr lo D k K (.ref b :: As) wc Qp Y) (hL : MLp own idx y cd n ret np) (hV : MVp y) (isC isR : List Nat) (hC : isC.map (fun i => ws[i]?) = wc.map some) (hRs : isR.map (fun i => ws[i]?) = wr.map some) (hnc : va_nd isC = true) (hn : va_nd isR = true) (hdis : ∀ i ∈ isR, i ∉ isC)
    (hrv : ∃ cell : Cell, H[b]? = some cell ∧ cell.vm.isStatics = false ∧ s.vm.findClass y.cls = some cell.cls) (hnp : As.length = np) (hls : ls.size = nL) (hst : st0 = As.reverse ++ .ref b :: rest) (hW : (rest.map fun v => v.category).sum ≤ 8) (hRm : fr + 1 ≤ R.frames ∧ 8 + (n + 11) + lo ≤ R.locals) (hf : cells + 1 ≤ R.cells ∧ slots + 6 ≤ R.slots) (hdg : decode cc pc = .ok (.invokevirtual idx, 3))
    (kx : ∀ (ce : Cell) (q : Nat) (H1 : Heap) (locs1 : List Loc), Y → Bd D A s.heap (wr ++ wc) H1 locs1 → H1[q]? = some ce → ce.vm = .none → s.vm.findClass NSE = some ce.cls → vx_W p l e R s m args below meth c H1 locs1 (cells + 1) (slots + 6) Q (F0 m pc ls rest) q)
    (kk : ∀ (r : Int32) (w1 : va_W) (H1 : Heap) (locs1 : List Loc), Qp r w1 → Bd D A s.heap (wr ++ w1) H1 locs1 → W p l e R s m args below meth c H1 locs1 (cells + 1) (slots + 6) Q (F0 m (pc + 3) ls (.int r :: rest))) : W p l e R s m args below meth c H locs cells slots Q (F0 m pc ls st0) := by
  obtain ⟨hPc, hDc⟩ := hB.cut isC hnc hC
  have hFc := va_free (wc := wc) hB.2.1 hB.2.2 hA isC hC
  subst hst
  refine vx_calli (vx_runV (C := y.cls) (rest := rest) F.1 (hM H.size) ⟨hL.cb F hRm, F.t _ hV.1, F.t _ hV.2⟩ ⟨PreE.blind D k K wc H.size _, hrv, fun U hU hW => ⟨⟨rfl, by rw [hU], by rw [hU]; exact hPc, va_K.moved hW.alike F.2, hDc.weaken (fun _ _ _ _ => trivial)⟩, hE.at hB hA isC hC hU hW⟩⟩ rfl hnp hls rfl (lv_room hW) hdg hf) hB.2.2 (fun q _ h => hFc q h) hFc (fun q _ h => hFc q h) (fun E ce q9 u t H1 locs1 ht hvm hpx hBX hz1 hk1 hS1 hcell hv hcl => ?_) (fun r u t H1 locs1 ht hvm hw hW hz1 hk1 hS1 => ?_)
  · subst ht
    obtain ⟨rfl, hW2⟩ := hBX
    exact kx ce q9 _ _ hpx (hB.join hA isC isR hC hRs hn hdis hk1 hW2.1 hW2.2.2 hS1) hcell hv hcl
  · subst ht
    exact kk r u _ _ hw (hB.join hA isC isR hC hRs hn hdis hk1 hW.1 hW.2.2 hS1)
end CALL
/-- the exception goes on to the caller -/
theorem rx_out {Qp : Int32 → va_W → Prop} {ce : Cell} {q : Nat} (F : Fx p m c cc nL s args own D k) (hlk : meth.locks = false) (hno : ∀ x ∈ c.exceptionTable.toList, False) (hB : Bd D A s.heap ws H locs) (hX : X) (h1 : H[q]? = some ce) (h2 : ce.vm = .none) (h3 : s.vm.findClass NSE = some ce.cls) (hc : cells ≤ 1) (hs : slots ≤ 6) : vx_W p l e R s m args below meth c H locs cells slots (Ex below Qp X ws D k A args s) (F0 m pc ls rest) q :=
  vx_out (fun x hx => (hno x hx).elim) hlk h1 h2 h3 (fun t ht hvm => ⟨(), hX, ⟨rfl, by rw [ht]; exact hB.1, va_K.moved hvm F.2, hB.2.1⟩, hB.2.2.F ht⟩) hB.2.2.2.2 hc hs
end THR
