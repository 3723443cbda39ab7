theorem my_go {Q9 : Handler → Jvm.Pre} {E9 : CtlPost} {e : Env} {d : Bool} {acts : List Action} {S : State} {f : JFrame} {a : Addr} {x : ExceptionTableEntry} {cT : ClassId} {ce : Cell} {k1 k2 : Class} (hx : (decide (x.startPc ≤ f.pc) && decide (f.pc < x.endPc)) = true) (h0 : x.catchType ≠ 0) (ra : (VmOp.resolveClass f.method.cls x.catchType).answer e S.vm = Except.ok cT) (rt : (VmOp.resolveClass f.method.cls x.catchType).tables e S.vm = S.vm.noted f.method.cls x.catchType (Resolved.cls cT)) (hcell : S.heap[a]? = some ce) (hobj : ∀ k, ce.vm ≠ .statics k) (hk1 : (S.vm.noted f.method.cls x.catchType (Resolved.cls cT)).classes[ce.cls]? = some k1) (hk2 : (S.vm.noted f.method.cls x.catchType (Resolved.cls cT)).classes[cT]? = some k2) (has : (S.vm.noted f.method.cls x.catchType (Resolved.cls cT)).assignable ce.cls cT = true) :
    wp (findHandler.go f a [x]) Q9 E9 e d acts S ↔ Q9 (.found x.handlerPc) d acts (S.setVm (S.vm.noted f.method.cls x.catchType (Resolved.cls cT))) := by
  simp [findHandler.go, hx, h0, ra, rt, hcell, hobj, hk1, hk2, has, VmOp.dirties, VmOp.acts]
theorem my_st {e : Env} {S : State} {a : Addr} {f : JFrame} {r : List Frame} {pc1 : Nat} {vm1 : Vm} (h : ∀ (Q9 : Handler → Jvm.Pre) (E9 : CtlPost) (d : Bool) (acts : List Action), wp (findHandler f a) Q9 E9 e d acts S ↔ Q9 (.found pc1) d acts (S.setVm vm1)) : (stepThrowing e S a (.java f :: r)).Is ((S.setVm vm1).setFrames (.java { f with pc := pc1, stack := [.ref a] } :: r)) [] := by
  simp only [stepThrowing, searchFrame, vmDo]
  generalize hr : Sem.go _ e false [] S = res
  obtain ⟨as, rfl, ha⟩ := Sem.eq_ok_of hr (a := Handler.found pc1) (s' := S.setVm vm1) (acts' := []) (by simp [h _ _ _ _])
  exact ⟨rfl, ha⟩
/-- an exception that a callee threw, taken by the one row of this method's table -/
theorem my_catch {p : Program} {l : Launch} {e : Env} {R : Room} {s : State} {m : MethodId} {args : Array Value} {below : List Frame} {meth : Method} {c : Code} {H : Heap} {locs : List Loc} {cells slots : Nat} {Q : State → Prop} {pc : Nat} {ls : Array Slot} {rest : List Value} {own name E : String} {ce : Cell} {q : Nat} (hown : s.vm.findClass own = some m.cls) (x : ExceptionTableEntry) (hone : c.exceptionTable.toList = [x]) (hx : covers x pc = true) (h0 : x.catchType ≠ 0) (hlink : (Cond.classLink own x.catchType name).before args s = true) (hcast : (Cond.castable E name).before args s = true) (hcell : H[q]? = some ce) (hv : ce.vm = .none) (hcl : s.vm.findClass E = some ce.cls)
    (kk : W p l e R s m args below meth c H locs cells slots Q (F0 m x.handlerPc ls [.ref q])) : vx_W p l e R s m args below meth c H locs cells slots Q (F0 m pc ls rest) q := by
  intro T hT X
  have hpl : e.platform.magicAccessors = ({} : Platform).magicAccessors := by rw [X.admits.platform]
  obtain ⟨c1, hc1, hlk⟩ := Cond.classLink_spec hown hlink e.platform hpl
  obtain ⟨c3, cT, g3, gT, hasg⟩ := Cond.castable_spec hcast
  have e3 : c3 = ce.cls := Option.some.inj (g3.symm.trans hcl)
  have eT : cT = c1 := Option.some.inj (gT.symm.trans hc1)
  subst e3
  subst eT
  obtain ⟨dk, _, _, kt, hd, _, _, _, _, hkt, _, hopen⟩ := hlk.here
  have hlT := X.warmed.classLinks hlk
  have hW1 := X.warmed.noted hd hopen (State.rightAt_cls hlk)
  obtain ⟨k0, hk0⟩ := Vm.classAt_of_assignable hasg ⟨kt, hkt⟩
  obtain ⟨t, a1, b1⟩ := kk (T.setVm (T.vm.noted m.cls x.catchType (.cls cT))) hT (X.noted hW1)
  refine ⟨t, ?_, b1⟩
  have hcell2 : T.heap[q]? = some ce := by rw [hT]; exact hcell
  have hobj : ∀ k, ce.vm ≠ .statics k := fun k z => by rw [hv] at z; cases z
  have hal2 : s.vm.Alike (T.vm.noted m.cls x.catchType (.cls cT)) := hW1.alike
  obtain ⟨k1, hk1, -⟩ := hal2.2.2 _ _ hk0
  obtain ⟨k2, hk2, -⟩ := hal2.2.2 _ _ hkt
  have has2 : (T.vm.noted m.cls x.catchType (.cls cT)).assignable ce.cls cT = true := by rw [hal2.assignable]; exact hasg
  obtain ⟨ra, rt⟩ := (resolveClass_links e.toSetting hlT).op (op := VmOp.resolveClass m.cls x.catchType) rfl
  have hfind : ∀ (Q9 : Handler → Jvm.Pre) (E9 : CtlPost) (d9 : Bool) (acts : List Action), wp (findHandler (F0 m pc ls rest) q) Q9 E9 e d9 acts ((T.setTop (F0 m pc ls rest)).pushFrame (.throwing q)) ↔ Q9 (.found x.handlerPc) d9 acts (((T.setTop (F0 m pc ls rest)).pushFrame (.throwing q)).setVm (T.vm.noted m.cls x.catchType (.cls cT))) := by
    intro Q9 E9 d9 acts
    rw [W.findHandler_eq (meth := meth) (code := c) X.method' X.code, hone]
    have hx2 := hx
    simp only [covers] at hx2
    exact my_go (f := F0 m pc ls rest) (S := (T.setTop (F0 m pc ls rest)).pushFrame (.throwing q)) hx2 h0 ra rt hcell2 hobj hk1 hk2 has2
  obtain ⟨hgo, hw⟩ := At.throwing (g := F0 m pc ls rest) X.here q
  refine Steps.head hgo hw ?_
  rw [stepThread_throwing (frames_entered X.here.top _), (my_st hfind).1]
  obtain ⟨g1, hfr⟩ := X.frames_eq
  rw [State.pushFrame, State.frames_setTop _ hfr] 
  have hfr2 : (T.setVm (T.vm.noted m.cls x.catchType (.cls cT))).frames = .java g1 :: below := hfr
  rw [State.setTop_of_frames _ hfr2] at a1
  rw [State.setTop_of_frames _ hfr, State.setFrames_setFrames, hfr, List.tail_cons]
  have h9 : ∀ (F G : List Frame), ((T.setFrames F).setVm (T.vm.noted m.cls x.catchType (.cls cT))).setFrames G = (T.setVm (T.vm.noted m.cls x.catchType (.cls cT))).setFrames G := fun F G => State.setFrames_setFrames (T.setVm (T.vm.noted m.cls x.catchType (.cls cT))) F G
  rw [h9]
  exact a1
