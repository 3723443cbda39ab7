/-! my own rows over the kit's: one list of words for all methods, cells of objects by the kinds of their slots -/
def UU : List Cond := lw_tbl.filter goodWord
theorem UU_good : GoodIn UU UU := fun w h => ⟨h, good_of_word (List.mem_filter.mp h).2⟩
theorem inU {w : Cond} (h : (decide (w ∈ lw_tbl) && goodWord w) = true) : w ∈ UU := by
  simp only [Bool.and_eq_true, decide_eq_true_eq] at h
  exact List.mem_filter.mpr h
theorem inUs {ws : List Cond} (h : ws.all (fun w => decide (w ∈ lw_tbl) && goodWord w) = true) : ∀ w ∈ ws, w ∈ UU := fun w hw => inU (List.all_eq_true.mp h w hw)
abbrev TY (k : Nat → ClassId) : List (ClassId × FieldType) := [(k 0, .int), (k 1, .long), (k 2, .byte), (k 3, .boolean), (k 4, .object "LongTrain$Row"), (k 5, .object "LongTrain$State")]
def kdT (ci : Nat) : List Nat := match ci with
  | 0 => [2, 0, 0, 0, 0, 0, 0, 2, 2, 0]
  | 1 => [2, 0, 2, 2, 2, 0]
  | 2 => [2, 0, 0, 0]
  | 3 => [2, 0, 2, 0, 2, 0, 2, 0, 2, 0, 0, 0, 0, 0, 0, 0]
  | 4 => [2, 2, 2, 2, 0, 0]
  | 5 => [2, 2, 2, 0, 0, 0, 2, 2, 0, 2, 2, 0]
  | 6 => [2, 2, 2, 0]
  | 7 => [2, 0, 0, 0, 0, 0, 0, 1, 0, 0]
  | 8 => [2, 2, 2, 2, 2, 2, 2, 2, 0, 0, 0, 0]
  | 9 => [2, 2, 2]
  | 10 => [2, 2, 0]
  | 11 => [2, 0, 0, 2, 2, 2, 2, 2, 2, 2, 2, 2, 2]
  | 12 => [0, 2, 0, 0, 0, 0, 2, 2, 2, 2, 2, 0, 0, 0, 0, 0, 0, 1, 0, 0, 0, 0, 2, 2, 2, 2, 2, 0, 0, 2, 2, 2, 0, 0, 2, 2, 2, 2, 0, 0, 0, 0, 2, 2, 0, 0, 2, 2, 2]
  | _ => []

def nf (ci : Nat) : Nat := (kdT ci).length
def kd (ci k : Nat) : Nat := (kdT ci).getD k 0
def sl (v : Nat → Value) (i : Nat → Int32) (j : Nat → Int64) (k n : Nat) : Value := match n with
  | 0 => .int (i k)
  | 1 => .long (j k)
  | _ => v k
def fl (ci : Nat) (v : Nat → Value) (i : Nat → Int32) (j : Nat → Int64) : List Value := (List.range (nf ci)).map (fun k => sl v i j k (kd ci k))
abbrev ob (ci : Nat) (v : Nat → Value) (i : Nat → Int32) (j : Nat → Int64) : va_E := .inr (ci, fl ci v i j)
abbrev ai (k : Nat → ClassId) (n : Nat) (r : Nat → Int32) : va_E := .inl (k 0, n, .inl r)
abbrev aj (k : Nat → ClassId) (n : Nat) (r : Nat → Int64) : va_E := .inl (k 1, n, .inr (.inl r))
abbrev ab (k : Nat → ClassId) (n : Nat) (r : Nat → Int32) : va_E := .inl (k 2, n, .inl r)
abbrev az (k : Nat → ClassId) (n : Nat) (r : Nat → Int32) : va_E := .inl (k 3, n, .inl r)
abbrev aR (k : Nat → ClassId) (n : Nat) (r : Nat → Option Nat) : va_E := .inl (k 4, n, .inr (.inr (.inr (.inr r))))
abbrev aS (k : Nat → ClassId) (n : Nat) (r : Nat → Option Nat) : va_E := .inl (k 5, n, .inr (.inr (.inr (.inr r))))
abbrev rfd (d : Nat → Nat) : Nat → Value := fun k => .ref (d k)
abbrev j0 : Nat → Int64 := fun _ => 0
theorem fl_len (ci : Nat) (v : Nat → Value) (i : Nat → Int32) (j : Nat → Int64) : (fl ci v i j).length = nf ci := by simp [fl]
theorem fl_get {ci k : Nat} (v : Nat → Value) (i : Nat → Int32) (j : Nat → Int64) (h : k < nf ci) : (fl ci v i j)[k]? = some (sl v i j k (kd ci k)) := by
  simp [fl, h]
theorem fl_set {ci k : Nat} {v v' : Nat → Value} {i i' : Nat → Int32} {j j' : Nat → Int64} {x : Value} (hx : sl v' i' j' k (kd ci k) = x) (ho : ∀ q, q ≠ k → sl v' i' j' q (kd ci q) = sl v i j q (kd ci q)) : (fl ci v i j).set k x = fl ci v' i' j' := by
  apply List.ext_getElem?
  intro q
  by_cases hq : q = k
  · subst hq
    by_cases hl : q < nf ci
    · rw [List.getElem?_set_self (by rw [fl_len]; exact hl), fl_get _ _ _ hl, hx]
    · rw [List.getElem?_eq_none (by rw [List.length_set, fl_len]; omega), List.getElem?_eq_none (by rw [fl_len]; omega)]
  · rw [List.getElem?_set_ne (Ne.symm hq)]
    by_cases hl : q < nf ci
    · rw [fl_get _ _ _ hl, fl_get _ _ _ hl, ho q hq]
    · rw [List.getElem?_eq_none (by rw [fl_len]; omega), List.getElem?_eq_none (by rw [fl_len]; omega)]
theorem fl_seti {ci k : Nat} (v : Nat → Value) (i : Nat → Int32) (j : Nat → Int64) (x : Int32) (h : kd ci k = 0) : (fl ci v i j).set k (.int x) = fl ci v (upd i k x) j := by
  refine fl_set ?_ ?_
  · rw [h]; simp [sl, upd]
  · intro q hq
    unfold sl
    split <;> simp [upd, hq]
theorem fl_setj {ci k : Nat} (v : Nat → Value) (i : Nat → Int32) (j : Nat → Int64) (x : Int64) (h : kd ci k = 1) : (fl ci v i j).set k (.long x) = fl ci v i (vp_updL j k x) := by
  refine fl_set ?_ ?_
  · rw [h]; simp [sl, vp_updL]
  · intro q hq
    unfold sl
    split <;> simp [vp_updL, hq]
theorem fl_setv {ci k : Nat} (v : Nat → Value) (i : Nat → Int32) (j : Nat → Int64) (x : Value) (h : kd ci k = 2) : (fl ci v i j).set k x = fl ci (updV v k x) i j := by
  refine fl_set ?_ ?_
  · rw [h]; simp [sl, updV]
  · intro q hq
    unfold sl
    split <;> simp [updV, hq]
/-- a field's link: its class, its slot, its kind, whether it is final, its type -/
def FLp (own : String) (idx ci kf : Nat) (fin : Bool) (ft : FieldType) : Prop := ∃ (C : String) (T : u_T) (ty : Nat → FieldType), vwCl[ci]? = some (C, T, nf ci) ∧ (∀ w ∈ u_ws C T (nf ci), w ∈ UU) ∧ (∀ k, k < nf ci → parseFieldDescriptor (T k).2.2.1 = some (ty k)) ∧ (∀ a, a < nf ci → ∀ b, b < nf ci → a ≠ b → (T a).2.1 ≠ (T b).2.1) ∧ kf < nf ci ∧ Cond.fieldLink own idx (T kf).1 (T kf).2.1 (T kf).2.2.1 ∈ UU ∧ (T kf).2.2.2 = fin ∧ ty kf = ft ∧ (T kf).1 = C
def Bd (D : va_G) (A : Nat → Prop) (H0 : Heap) (ws : va_W) (H : Heap) (locs : List Loc) : Prop := va_P D vwCl ws H ∧ va_D A ws ∧ va_S A H0 H locs
def Fx (p : Program) (m : MethodId) (c : Code) (cc : ByteArray) (nL : Nat) (s : State) (args : Array Value) (own : String) (D : va_G) (k : Nat → ClassId) : Prop := CallFix p m c cc nL s args UU own ∧ va_K D vwCl (TY k) s
theorem Bd.sub {D : va_G} {A : Nat → Prop} {H0 : Heap} {ws ws' : va_W} {H : Heap} {locs : List Loc} (h : Bd D A H0 ws H locs) (is : List Nat) (hn : va_nd is = true) (hs : is.map (fun i => ws[i]?) = ws'.map some) : Bd D A H0 ws' H locs := by
  refine ⟨?_, h.2.1.sub is hn hs, h.2.2⟩
  intro q x hx
  have h1 : (is.map (fun i => ws[i]?))[q]? = some (some x) := by rw [hs, List.getElem?_map, hx]; rfl
  rw [List.getElem?_map] at h1
  cases hi : is[q]? with
  | none => rw [hi] at h1; cases h1
  | some i => rw [hi] at h1; exact h.1 i x (Option.some.inj h1)
section MYK
variable {p : Program} {l : Launch} {e : Env} {R : Room} {s : State} {m : MethodId} {args : Array Value} {below : List Frame} {meth : Method} {c : Code} {H : Heap} {locs : List Loc} {cells slots : Nat} {Q : State → Prop}
variable {cc : ByteArray} {pc nL : Nat} {ls : Array Slot} {rest : List Value} {D : va_G} {A : Nat → Prop} {a : Nat} {k : Nat → ClassId} {ws : va_W} {H0 : Heap} {own : String} {idx : Nat}
theorem Fx.x (F : Fx p m c cc nL s args own D k) : p.tables.exec = Jvm.exec := F.1.1
theorem Fx.b (F : Fx p m c cc nL s args own D k) : c.code = cc := F.1.2.1
theorem Fx.ml (F : Fx p m c cc nL s args own D k) : c.maxLocals = nL := F.1.2.2.1
theorem Fx.o (F : Fx p m c cc nL s args own D k) : s.vm.findClass own = some m.cls := F.1.2.2.2.1
theorem Fx.t (F : Fx p m c cc nL s args own D k) : ∀ w ∈ UU, w.before args s = true := F.1.2.2.2.2
theorem g_get (F : Fx p m c cc nL s args own D k) (hB : Bd D A H0 ws H locs) (q0 : Nat) {ci kf : Nat} {fin : Bool} {ft : FieldType} {v : Nat → Value} {i : Nat → Int32} {j : Nat → Int64} (he : ws[q0]? = some (a, ob ci v i j)) (hL : FLp own idx ci kf fin ft) {w : Value} (hw : sl v i j kf (kd ci kf) = w) (hdg : decode cc pc = .ok (.getfield idx, 3))
    (kk : W p l e R s m args below meth c H locs cells slots Q (F0 m (pc + 3) ls (w :: rest))) : W p l e R s m args below meth c H locs cells slots Q (F0 m pc ls (.ref a :: rest)) := by
  obtain ⟨C, T, ty, h1, h2, h3, h4, h5, h6, h7, h8, h9⟩ := hL
  exact va_get F.x F.b F.t h2 F.o F.2 hB.1 q0 he h1 kf h5 (F.t _ h6) (fun _ h => h) (v := w) (by rw [fl_get v i j h5, hw]) hdg kk
theorem g_puti (F : Fx p m c cc nL s args own D k) (hB : Bd D A H0 ws H locs) (q0 : Nat) {ci kf : Nat} {v : Nat → Value} {i : Nat → Int32} {j : Nat → Int64} {x : Int32} (he : ws[q0]? = some (a, ob ci v i j)) (hL : FLp own idx ci kf false .int) (hk : kd ci kf = 0) (ws' : va_W) (hw : ws.set q0 (a, ob ci v (upd i kf x) j) = ws') (hdg : decode cc pc = .ok (.putfield idx, 3))
    (kk : ∀ (H1 : Heap) (locs1 : List Loc), Bd D A H0 ws' H1 locs1 → W p l e R s m args below meth c H1 locs1 cells slots Q (F0 m (pc + 3) ls rest)) : W p l e R s m args below meth c H locs cells slots Q (F0 m pc ls (.int x :: .ref a :: rest)) := by
  obtain ⟨C, T, ty, h1, h2, h3, h4, h5, h6, h7, h8, h9⟩ := hL
  refine va_put (ty := .int) (v := .int x) F.x F.b F.t h2 ty h3 h4 F.o F.2 hB.1 hB.2.1 hB.2.2 q0 he h1 kf h5 (F.t _ h6) (fun _ h => h) h7 (by rw [h3 kf h5, h8]) rfl rfl (by rw [fl_len]; exact h5) hdg (fun H1 locs1 a1 a2 a3 => ?_)
  rw [fl_seti v i j x hk, hw] at a1 a2
  exact kk H1 locs1 ⟨a1, a2, a3⟩
theorem g_putz (F : Fx p m c cc nL s args own D k) (hB : Bd D A H0 ws H locs) (q0 : Nat) {ci kf : Nat} {v : Nat → Value} {i : Nat → Int32} {j : Nat → Int64} {x : Int32} (he : ws[q0]? = some (a, ob ci v i j)) (hL : FLp own idx ci kf false .boolean) (hk : kd ci kf = 0) (hn : narrow .boolean (.int x) = .int x) (hft : fits .boolean (.int x) = true) (ws' : va_W) (hw : ws.set q0 (a, ob ci v (upd i kf x) j) = ws') (hdg : decode cc pc = .ok (.putfield idx, 3))
    (kk : ∀ (H1 : Heap) (locs1 : List Loc), Bd D A H0 ws' H1 locs1 → W p l e R s m args below meth c H1 locs1 cells slots Q (F0 m (pc + 3) ls rest)) : W p l e R s m args below meth c H locs cells slots Q (F0 m pc ls (.int x :: .ref a :: rest)) := by
  obtain ⟨C, T, ty, h1, h2, h3, h4, h5, h6, h7, h8, h9⟩ := hL
  refine va_put (ty := .boolean) (v := .int x) F.x F.b F.t h2 ty h3 h4 F.o F.2 hB.1 hB.2.1 hB.2.2 q0 he h1 kf h5 (F.t _ h6) (fun _ h => h) h7 (by rw [h3 kf h5, h8]) hn hft (by rw [fl_len]; exact h5) hdg (fun H1 locs1 a1 a2 a3 => ?_)
  rw [fl_seti v i j x hk, hw] at a1 a2
  exact kk H1 locs1 ⟨a1, a2, a3⟩
theorem g_putj (F : Fx p m c cc nL s args own D k) (hB : Bd D A H0 ws H locs) (q0 : Nat) {ci kf : Nat} {v : Nat → Value} {i : Nat → Int32} {j : Nat → Int64} {x : Int64} (he : ws[q0]? = some (a, ob ci v i j)) (hL : FLp own idx ci kf false .long) (hk : kd ci kf = 1) (ws' : va_W) (hw : ws.set q0 (a, ob ci v i (vp_updL j kf x)) = ws') (hdg : decode cc pc = .ok (.putfield idx, 3))
    (kk : ∀ (H1 : Heap) (locs1 : List Loc), Bd D A H0 ws' H1 locs1 → W p l e R s m args below meth c H1 locs1 cells slots Q (F0 m (pc + 3) ls rest)) : W p l e R s m args below meth c H locs cells slots Q (F0 m pc ls (.long x :: .ref a :: rest)) := by
  obtain ⟨C, T, ty, h1, h2, h3, h4, h5, h6, h7, h8, h9⟩ := hL
  refine va_put (ty := .long) (v := .long x) F.x F.b F.t h2 ty h3 h4 F.o F.2 hB.1 hB.2.1 hB.2.2 q0 he h1 kf h5 (F.t _ h6) (fun _ h => h) h7 (by rw [h3 kf h5, h8]) rfl rfl (by rw [fl_len]; exact h5) hdg (fun H1 locs1 a1 a2 a3 => ?_)
  rw [fl_setj v i j x hk, hw] at a1 a2
  exact kk H1 locs1 ⟨a1, a2, a3⟩
theorem g_putv (F : Fx p m c cc nL s args own D k) (hB : Bd D A H0 ws H locs) (q0 : Nat) {ci kf : Nat} {v : Nat → Value} {i : Nat → Int32} {j : Nat → Int64} {x : Value} {ft : FieldType} (he : ws[q0]? = some (a, ob ci v i j)) (hL : FLp own idx ci kf false ft) (hk : kd ci kf = 2) (hn : narrow ft x = x) (hft : fits ft x = true) (ws' : va_W) (hw : ws.set q0 (a, ob ci (updV v kf x) i j) = ws') (hdg : decode cc pc = .ok (.putfield idx, 3))
    (kk : ∀ (H1 : Heap) (locs1 : List Loc), Bd D A H0 ws' H1 locs1 → W p l e R s m args below meth c H1 locs1 cells slots Q (F0 m (pc + 3) ls rest)) : W p l e R s m args below meth c H locs cells slots Q (F0 m pc ls (x :: .ref a :: rest)) := by
  obtain ⟨C, T, ty, h1, h2, h3, h4, h5, h6, h7, h8, h9⟩ := hL
  refine va_put (ty := ft) (v := x) F.x F.b F.t h2 ty h3 h4 F.o F.2 hB.1 hB.2.1 hB.2.2 q0 he h1 kf h5 (F.t _ h6) (fun _ h => h) h7 (by rw [h3 kf h5, h8]) hn hft (by rw [fl_len]; exact h5) hdg (fun H1 locs1 a1 a2 a3 => ?_)
  rw [fl_setv v i j x hk, hw] at a1 a2
  exact kk H1 locs1 ⟨a1, a2, a3⟩
/-- a final field that holds a reference, in a constructor -/
theorem g_putf (F : Fx p m c cc nL s args own D k) (hin : meth.name = "<init>") (hB : Bd D A H0 ws H locs) (q0 : Nat) {ci kf : Nat} {v : Nat → Value} {i : Nat → Int32} {j : Nat → Int64} {x : Value} {ft : FieldType} (he : ws[q0]? = some (a, ob ci v i j)) (hL : FLp own idx ci kf true ft) (hC : (vwCl[ci]?).map (fun q => q.1) = some own) (hk : kd ci kf = 2) (hn : narrow ft x = x) (hft : fits ft x = true) (ws' : va_W) (hw : ws.set q0 (a, ob ci (updV v kf x) i j) = ws') (hdg : decode cc pc = .ok (.putfield idx, 3))
    (kk : ∀ (H1 : Heap) (locs1 : List Loc), Bd D A H0 ws' H1 locs1 → W p l e R s m args below meth c H1 locs1 cells slots Q (F0 m (pc + 3) ls rest)) : W p l e R s m args below meth c H locs cells slots Q (F0 m pc ls (x :: .ref a :: rest)) := by
  obtain ⟨C, T, ty, h1, h2, h3, h4, h5, h6, h7, h8, h9⟩ := hL
  rw [h1] at hC
  have hC' : C = own := Option.some.inj hC
  refine va_putF (ty := ft) (v := x) F.x F.b F.t h2 ty h3 h4 F.o F.2 hB.1 hB.2.1 hB.2.2 q0 he h1 kf h5 (F.t _ h6) (fun _ h => h) h7 hin (h9.trans hC') (by rw [h3 kf h5, h8]) hn hft (by rw [fl_len]; exact h5) hdg (fun H1 locs1 a1 a2 a3 => ?_)
  rw [fl_setv v i j x hk, hw] at a1 a2
  exact kk H1 locs1 ⟨a1, a2, a3⟩
/-! arrays -/
theorem g_iald (F : Fx p m c cc nL s args own D k) (hB : Bd D A H0 ws H locs) (q0 : Nat) {n : Nat} {r : Nat → Int32} (ha : ws[q0]? = some (a, ai k n r)) {x : Int32} (hin : vp_in x n) (hdg : decode cc pc = .ok (.iaload, 1))
    (kk : W p l e R s m args below meth c H locs cells slots Q (F0 m (pc + 1) ls (.int (r x.toNatClampNeg) :: rest))) : W p l e R s m args below meth c H locs cells slots Q (F0 m pc ls (.int x :: .ref a :: rest)) :=
  va_iald F.x F.b F.2 hB.1 q0 0 ha rfl hin hdg kk
theorem g_jald (F : Fx p m c cc nL s args own D k) (hB : Bd D A H0 ws H locs) (q0 : Nat) {n : Nat} {r : Nat → Int64} (ha : ws[q0]? = some (a, aj k n r)) {x : Int32} (hin : vp_in x n) (hdg : decode cc pc = .ok (.laload, 1))
    (kk : W p l e R s m args below meth c H locs cells slots Q (F0 m (pc + 1) ls (.long (r x.toNatClampNeg) :: rest))) : W p l e R s m args below meth c H locs cells slots Q (F0 m pc ls (.int x :: .ref a :: rest)) :=
  va_lald F.x F.b F.2 hB.1 q0 1 ha rfl hin hdg kk
theorem g_bald (F : Fx p m c cc nL s args own D k) (hB : Bd D A H0 ws H locs) (q0 : Nat) {n : Nat} {r : Nat → Int32} (ha : ws[q0]? = some (a, ab k n r)) {x : Int32} (hin : vp_in x n) (hdg : decode cc pc = .ok (.baload, 1))
    (kk : W p l e R s m args below meth c H locs cells slots Q (F0 m (pc + 1) ls (.int (r x.toNatClampNeg) :: rest))) : W p l e R s m args below meth c H locs cells slots Q (F0 m pc ls (.int x :: .ref a :: rest)) :=
  va_bald F.x F.b F.2 hB.1 q0 2 ha rfl hin hdg kk
theorem g_zald (F : Fx p m c cc nL s args own D k) (hB : Bd D A H0 ws H locs) (q0 : Nat) {n : Nat} {r : Nat → Int32} (ha : ws[q0]? = some (a, az k n r)) {x : Int32} (hin : vp_in x n) (hdg : decode cc pc = .ok (.baload, 1))
    (kk : W p l e R s m args below meth c H locs cells slots Q (F0 m (pc + 1) ls (.int (r x.toNatClampNeg) :: rest))) : W p l e R s m args below meth c H locs cells slots Q (F0 m pc ls (.int x :: .ref a :: rest)) :=
  va_zald F.x F.b F.2 hB.1 q0 3 ha rfl hin hdg kk
theorem g_Rald (F : Fx p m c cc nL s args own D k) (hB : Bd D A H0 ws H locs) (q0 : Nat) {n : Nat} {r : Nat → Option Nat} (ha : ws[q0]? = some (a, aR k n r)) {x : Int32} (hin : vp_in x n) {w : Value} (hw : va_rf (r x.toNatClampNeg) = w) (hdg : decode cc pc = .ok (.aaload, 1))
    (kk : W p l e R s m args below meth c H locs cells slots Q (F0 m (pc + 1) ls (w :: rest))) : W p l e R s m args below meth c H locs cells slots Q (F0 m pc ls (.int x :: .ref a :: rest)) :=
  va_aldq F.x F.b F.2 hB.1 q0 4 ha rfl hin hdg (by rw [hw]; exact kk)
theorem g_Sald (F : Fx p m c cc nL s args own D k) (hB : Bd D A H0 ws H locs) (q0 : Nat) {n : Nat} {r : Nat → Option Nat} (ha : ws[q0]? = some (a, aS k n r)) {x : Int32} (hin : vp_in x n) {w : Value} (hw : va_rf (r x.toNatClampNeg) = w) (hdg : decode cc pc = .ok (.aaload, 1))
    (kk : W p l e R s m args below meth c H locs cells slots Q (F0 m (pc + 1) ls (w :: rest))) : W p l e R s m args below meth c H locs cells slots Q (F0 m pc ls (.int x :: .ref a :: rest)) :=
  va_aldq F.x F.b F.2 hB.1 q0 5 ha rfl hin hdg (by rw [hw]; exact kk)
theorem g_iast (F : Fx p m c cc nL s args own D k) (hB : Bd D A H0 ws H locs) (q0 : Nat) {n : Nat} {r : Nat → Int32} (ha : ws[q0]? = some (a, ai k n r)) {x y : Int32} (hin : vp_in x n) (ws' : va_W) (hw : ws.set q0 (a, ai k n (upd r x.toNatClampNeg y)) = ws') (hdg : decode cc pc = .ok (.iastore, 1))
    (kk : ∀ (H1 : Heap) (locs1 : List Loc), Bd D A H0 ws' H1 locs1 → W p l e R s m args below meth c H1 locs1 cells slots Q (F0 m (pc + 1) ls rest)) : W p l e R s m args below meth c H locs cells slots Q (F0 m pc ls (.int y :: .int x :: .ref a :: rest)) :=
  va_iast F.x F.b F.2 hB.1 hB.2.1 hB.2.2 q0 0 ha rfl hin hdg (fun H1 locs1 a1 a2 a3 => kk H1 locs1 ⟨hw ▸ a1, hw ▸ a2, a3⟩)
theorem g_jast (F : Fx p m c cc nL s args own D k) (hB : Bd D A H0 ws H locs) (q0 : Nat) {n : Nat} {r : Nat → Int64} (ha : ws[q0]? = some (a, aj k n r)) {x : Int32} {y : Int64} (hin : vp_in x n) (ws' : va_W) (hw : ws.set q0 (a, aj k n (vp_updL r x.toNatClampNeg y)) = ws') (hdg : decode cc pc = .ok (.lastore, 1))
    (kk : ∀ (H1 : Heap) (locs1 : List Loc), Bd D A H0 ws' H1 locs1 → W p l e R s m args below meth c H1 locs1 cells slots Q (F0 m (pc + 1) ls rest)) : W p l e R s m args below meth c H locs cells slots Q (F0 m pc ls (.long y :: .int x :: .ref a :: rest)) :=
  va_last F.x F.b F.2 hB.1 hB.2.1 hB.2.2 q0 1 ha rfl hin hdg (fun H1 locs1 a1 a2 a3 => kk H1 locs1 ⟨hw ▸ a1, hw ▸ a2, a3⟩)
theorem g_bast (F : Fx p m c cc nL s args own D k) (hB : Bd D A H0 ws H locs) (q0 : Nat) {n : Nat} {r : Nat → Int32} (ha : ws[q0]? = some (a, ab k n r)) {x y : Int32} (hin : vp_in x n) (ws' : va_W) (hw : ws.set q0 (a, ab k n (upd r x.toNatClampNeg (vp_nar .byte y))) = ws') (hdg : decode cc pc = .ok (.bastore, 1))
    (kk : ∀ (H1 : Heap) (locs1 : List Loc), Bd D A H0 ws' H1 locs1 → W p l e R s m args below meth c H1 locs1 cells slots Q (F0 m (pc + 1) ls rest)) : W p l e R s m args below meth c H locs cells slots Q (F0 m pc ls (.int y :: .int x :: .ref a :: rest)) :=
  va_bast F.x F.b F.2 hB.1 hB.2.1 hB.2.2 q0 2 ha rfl hin hdg (fun H1 locs1 a1 a2 a3 => kk H1 locs1 ⟨hw ▸ a1, hw ▸ a2, a3⟩)
theorem g_zast (F : Fx p m c cc nL s args own D k) (hB : Bd D A H0 ws H locs) (q0 : Nat) {n : Nat} {r : Nat → Int32} (ha : ws[q0]? = some (a, az k n r)) {x y : Int32} (hin : vp_in x n) (ws' : va_W) (hw : ws.set q0 (a, az k n (upd r x.toNatClampNeg (vp_nar .boolean y))) = ws') (hdg : decode cc pc = .ok (.bastore, 1))
    (kk : ∀ (H1 : Heap) (locs1 : List Loc), Bd D A H0 ws' H1 locs1 → W p l e R s m args below meth c H1 locs1 cells slots Q (F0 m (pc + 1) ls rest)) : W p l e R s m args below meth c H locs cells slots Q (F0 m pc ls (.int y :: .int x :: .ref a :: rest)) :=
  va_zast F.x F.b F.2 hB.1 hB.2.1 hB.2.2 q0 3 ha rfl hin hdg (fun H1 locs1 a1 a2 a3 => kk H1 locs1 ⟨hw ▸ a1, hw ▸ a2, a3⟩)
theorem g_alen (F : Fx p m c cc nL s args own D k) (hB : Bd D A H0 ws H locs) (q0 : Nat) {n : Nat} {r : Nat → Int32} (ha : ws[q0]? = some (a, ai k n r)) {v : Int32} (hv : Int32.ofNat n = v) (hdg : decode cc pc = .ok (.arraylength, 1))
    (kk : W p l e R s m args below meth c H locs cells slots Q (F0 m (pc + 1) ls (.int v :: rest))) : W p l e R s m args below meth c H locs cells slots Q (F0 m pc ls (.ref a :: rest)) :=
  va_alen F.x F.b F.2 hB.1 q0 0 ha rfl hv hdg kk
/-! contracts -/
def Pre (D : va_G) (k : Nat → ClassId) (ws : va_W) (sz : Nat) (av : List Value) : Array Value → State → Prop := va_Pc av (fun U => U.heap.size = sz ∧ va_P D vwCl ws U.heap ∧ va_K D vwCl (TY k) U ∧ va_D (fun _ => True) ws)
def Wt (D : va_G) (k : Nat → ClassId) (A : Nat → Prop) (w : va_W) (t : State) : Prop := va_P D vwCl w t.heap ∧ va_K D vwCl (TY k) t ∧ va_D A w
def CtI (l : Launch) (y : MethodName) (cd : ByteArray) (n : Nat) (ret : Option FieldType) (fr lo mc ms : Nat) (D : va_G) (k : Nat → ClassId) (av : List Value) (ws : va_W) (Qp : Int32 → va_W → Prop) : Prop :=
  ∀ sz : Nat, Met l y (.code y cd n ret :: UU) { frames := fr, cells := mc, slots := ms, locals := lo } (Pre D k ws sz av) (va_Qi Qp (Wt D k (va_A ws sz)) (va_A ws sz)) mc ms (va_A ws sz)
def CtV (l : Launch) (y : MethodName) (cd : ByteArray) (n : Nat) (ret : Option FieldType) (fr lo mc ms : Nat) (D : va_G) (k : Nat → ClassId) (av : List Value) (ws : va_W) (Qp : va_W → Prop) : Prop :=
  ∀ sz : Nat, Met l y (.code y cd n ret :: UU) { frames := fr, cells := mc, slots := ms, locals := lo } (Pre D k ws sz av) (va_Qv Qp (Wt D k (va_A ws sz)) (va_A ws sz)) mc ms (va_A ws sz)
theorem Pre.blind (D : va_G) (k : Nat → ClassId) (ws : va_W) (sz : Nat) (av : List Value) : FrameBlind (Pre D k ws sz av) := by
  intro a U g mk q
  obtain ⟨q0, q1, qP, qK, qD⟩ := q
  exact ⟨q0, q1, qP, va_K.moved (u := U) (U := U.calling g mk a) (Vm.Alike.refl U.vm) qK, qD⟩
/-- where a method ends -/
abbrev Ei (below : List Frame) (Qp : Int32 → va_W → Prop) (D : va_G) (k : Nat → ClassId) (A : Nat → Prop) (args : Array Value) (s : State) (mc ms : Nat) : State → Prop := MQ below (va_Qi Qp (Wt D k A) A) args s mc ms A
abbrev Ev (below : List Frame) (Qp : va_W → Prop) (D : va_G) (k : Nat → ClassId) (A : Nat → Prop) (args : Array Value) (s : State) (mc ms : Nat) : State → Prop := MQ below (va_Qv Qp (Wt D k A) A) args s mc ms A
theorem CtI.of {y : MethodName} {cd : ByteArray} {n : Nat} {ret : Option FieldType} {fr lo mc ms : Nat} {av : List Value} {Qp : Int32 → va_W → Prop} (hy : plainName y.cls = true) (hn : (lg_sl av).length ≤ n)
    (body : ∀ (p : Program) (e : Env) (s : State) (m : MethodId) (below : List Frame) (meth : Method) (c : Code) (A : Nat → Prop), Fx p m c cd n s av.toArray y.cls D k → meth.sig.returnType = ret → meth.locks = false → meth.name = y.name → (∀ q : Nat, s.heap.size ≤ q → A q) → Bd D A s.heap ws s.heap [] → ∀ ls : Array Slot, lv_has ls n (lv_args 0 av) → W p l e { frames := fr, cells := mc, slots := ms, locals := lo } s m av.toArray below meth c s.heap [] 0 0 (Ei below Qp D k A av.toArray s mc ms) (F0 m 0 ls [])) : CtI l y cd n ret fr lo mc ms D k av ws Qp := by
  intro sz
  refine Met.ofW (cc := cd) (maxL := n) (ret := ret) hy rfl ?_
  intro p e s m args below meth c s₁ B hml hv
  obtain ⟨rfl, hsz, hP, hK, hD0⟩ := hv
  subst hsz
  have hts := atoms_spec (ws := .code y cd n ret :: UU) B.pre
  have hl := lv_entry av (n := n) hn
  rw [lg_entry_eq]
  exact body p e s m below meth c (va_A ws s.heap.size) ⟨⟨B.exec, B.bytes, hml, findClass_of_methodNamed B.named, fun w h => hts w (List.mem_cons_of_mem _ h)⟩, hK⟩ B.returns B.notSynchronized (name_of_methodNamed B.named B.method).1 (fun q h => Or.inr h) ⟨hP, hD0.self, va_S.rf⟩ _ hl
theorem CtV.of {y : MethodName} {cd : ByteArray} {n : Nat} {ret : Option FieldType} {fr lo mc ms : Nat} {av : List Value} {Qp : va_W → Prop} (hy : plainName y.cls = true) (hn : (lg_sl av).length ≤ n)
    (body : ∀ (p : Program) (e : Env) (s : State) (m : MethodId) (below : List Frame) (meth : Method) (c : Code) (A : Nat → Prop), Fx p m c cd n s av.toArray y.cls D k → meth.sig.returnType = ret → meth.locks = false → meth.name = y.name → (∀ q : Nat, s.heap.size ≤ q → A q) → Bd D A s.heap ws s.heap [] → ∀ ls : Array Slot, lv_has ls n (lv_args 0 av) → W p l e { frames := fr, cells := mc, slots := ms, locals := lo } s m av.toArray below meth c s.heap [] 0 0 (Ev below Qp D k A av.toArray s mc ms) (F0 m 0 ls [])) : CtV l y cd n ret fr lo mc ms D k av ws Qp := by
  intro sz
  refine Met.ofW (cc := cd) (maxL := n) (ret := ret) hy rfl ?_
  intro p e s m args below meth c s₁ B hml hv
  obtain ⟨rfl, hsz, hP, hK, hD0⟩ := hv
  subst hsz
  have hts := atoms_spec (ws := .code y cd n ret :: UU) B.pre
  have hl := lv_entry av (n := n) hn
  rw [lg_entry_eq]
  exact body p e s m below meth c (va_A ws s.heap.size) ⟨⟨B.exec, B.bytes, hml, findClass_of_methodNamed B.named, fun w h => hts w (List.mem_cons_of_mem _ h)⟩, hK⟩ B.returns B.notSynchronized (name_of_methodNamed B.named B.method).1 (fun q h => Or.inr h) ⟨hP, hD0.self, va_S.rf⟩ _ hl
theorem r_i {Qp : Int32 → va_W → Prop} {v : Int32} (F : Fx p m c cc nL s args own D k) (hr : meth.sig.returnType = some .int) (hlocks : meth.locks = false) (hB : Bd D A s.heap ws H locs) (hq : Qp v ws) (hdg : decode cc pc = .ok (.ireturn, 1)) : W p l e R s m args below meth c H locs cells slots (Ei below Qp D k A args s cells slots) (F0 m pc ls [.int v]) :=
  W.iret F.x F.b hr (fun t ht hW => ⟨⟨v, ws, rfl, hq, by rw [ht]; exact hB.1, va_K.moved hW.alike F.2, hB.2.1⟩, hB.2.2.F ht⟩) hB.2.2.2.2 hdg hlocks
theorem nz {v : Int32} (h : v = 0 ∨ v = 1) : narrow .boolean (.int v) = .int v := by
  rcases h with rfl | rfl <;> decide
theorem r_z {Qp : Int32 → va_W → Prop} {v : Int32} (F : Fx p m c cc nL s args own D k) (hr : meth.sig.returnType = some .boolean) (hlocks : meth.locks = false) (hB : Bd D A s.heap ws H locs) (hv : v = 0 ∨ v = 1) (hq : Qp v ws) (hdg : decode cc pc = .ok (.ireturn, 1)) : W p l e R s m args below meth c H locs cells slots (Ei below Qp D k A args s cells slots) (F0 m pc ls [.int v]) :=
  W.zret F.x F.b hr (nz hv) (fun t ht hW => ⟨⟨v, ws, rfl, hq, by rw [ht]; exact hB.1, va_K.moved hW.alike F.2, hB.2.1⟩, hB.2.2.F ht⟩) hB.2.2.2.2 hdg hlocks
theorem r_v {Qp : va_W → Prop} (F : Fx p m c cc nL s args own D k) (hr : meth.sig.returnType = none) (hlocks : meth.locks = false) (hB : Bd D A s.heap ws H locs) (hq : Qp ws) (hdg : decode cc pc = .ok (.return_, 1)) : W p l e R s m args below meth c H locs cells slots (Ev below Qp D k A args s cells slots) (F0 m pc ls []) :=
  W.vret F.x F.b hr (fun t ht hW => ⟨⟨ws, rfl, hq, by rw [ht]; exact hB.1, va_K.moved hW.alike F.2, hB.2.1⟩, hB.2.2.F ht⟩) hB.2.2.2.2 hdg hlocks
/-! calls: what links them -/
def MLp (own : String) (idx : Nat) (y : MethodName) (cd : ByteArray) (n : Nat) (ret : Option FieldType) (np : Nat) : Prop := Cond.methodLink own idx y ∈ UU ∧ Cond.initialized y.cls ∈ UU ∧ Cond.code y cd n ret ∈ UU ∧ (y.cls ≠ "java/lang/invoke/MethodHandle" ∧ y.cls ≠ "java/lang/invoke/VarHandle" ∧ (parseMethodDescriptor y.desc).map (fun d => d.parameters.length) = some np)
def MVp (y : MethodName) : Prop := Cond.instanceMethod y ∈ UU ∧ Cond.selects y.cls y y ∈ UU
theorem good1 {w : Cond} (h : w ∈ UU) : GoodIn UU (w :: UU) := fun x hx => (List.mem_cons.mp hx).elim (fun e => by rw [e]; exact UU_good w h) (fun hx => UU_good x hx)
theorem MLp.cb {y : MethodName} {cd : ByteArray} {n : Nat} {ret : Option FieldType} {np fr lo mc ms : Nat} (F : Fx p m c cc nL s args own D k) (h : MLp own idx y cd n ret np) (hR : fr + 1 ≤ R.frames ∧ 8 + (n + 11) + lo ≤ R.locals) : CallB R s args own idx y cd n ret (.code y cd n ret :: UU) { frames := fr, cells := mc, slots := ms, locals := lo } mc ms np :=
  callB_of (rm := { frames := fr, cells := mc, slots := ms, locals := lo }) np F.t (good1 h.2.2.1) rfl rfl rfl (F.t _ h.2.1) (F.t _ h.1) h.2.2.2 hR
theorem Bd.cut {wc : va_W} (hB : Bd D A H0 ws H locs) (isC : List Nat) (hn : va_nd isC = true) (hC : isC.map (fun i => ws[i]?) = wc.map some) : va_P D vwCl wc H ∧ va_D A wc := ⟨(hB.sub isC hn hC).1, (hB.sub isC hn hC).2.1⟩
/-- behind a call -/
theorem Bd.join {wc wr w1 : va_W} {H1 : Heap} {locs1 : List Loc} (hB : Bd D A H0 ws H locs) (hA : ∀ q : Nat, H0.size ≤ q → A q) (isC isR : List Nat) (hC : isC.map (fun i => ws[i]?) = wc.map some) (hR : isR.map (fun i => ws[i]?) = wr.map some) (hn : va_nd isR = true) (hdis : ∀ i ∈ isR, i ∉ isC) (hk : ∀ q : Nat, q < H.size → ¬ va_A wc H.size q → H1[q]? = H[q]?) (hP1 : va_P D vwCl w1 H1) (hD1 : va_D (va_A wc H.size) w1) (hS1 : va_S A H0 H1 locs1) : Bd D A H0 (wr ++ w1) H1 locs1 := by
  have hF := va_free (wc := wc) hB.2.1 hB.2.2 hA isC hC
  obtain ⟨a1, a2⟩ := va_join (wr := wr) (w1 := w1) hB.1 hB.2.1 isC isR hC hR hn hdis hk hF hP1 hD1
  exact ⟨a1, a2, hS1⟩
section CALL
variable {y : MethodName} {cd : ByteArray} {n : Nat} {ret : Option FieldType} {np fr lo mc ms : Nat} {As : List Value} {b : Nat} {st0 : List Value} {wc wr : va_W}
theorem k_vi {Qp : Int32 → va_W → Prop} (F : Fx p m c cc nL s args own D k) (hA : ∀ q : Nat, H0.size ≤ q → A q) (hB : Bd D A H0 ws H locs) (hM : CtI l y cd n ret fr lo mc ms D k (.ref b :: As) wc Qp) (hL : MLp own idx y cd n ret np) (hV : MVp y) (isC isR : List Nat) (hC : isC.map (fun i => ws[i]?) = wc.map some) (hRs : isR.map (fun i => ws[i]?) = wr.map some) (hnc : va_nd isC = true) (hn : va_nd isR = true) (hdis : ∀ i ∈ isR, i ∉ isC)
    (q0 : Nat) {ci : Nat} {fs : List Value} (hq0 : ws[q0]? = some (b, .inr (ci, fs))) (hci : (vwCl[ci]?).map (fun q => q.1) = some y.cls) (hnp : As.length = np) (hls : ls.size = nL) (hst : st0 = As.reverse ++ .ref b :: rest) (hW : (rest.map fun v => v.category).sum ≤ 8) (hRm : fr + 1 ≤ R.frames ∧ 8 + (n + 11) + lo ≤ R.locals) (hf : cells + mc ≤ R.cells ∧ slots + ms ≤ R.slots) (hdg : decode cc pc = .ok (.invokevirtual idx, 3))
    (kk : ∀ (r : Int32) (w1 : va_W) (H1 : Heap) (locs1 : List Loc), Qp r w1 → Bd D A H0 (wr ++ w1) H1 locs1 → W p l e R s m args below meth c H1 locs1 (cells + mc) (slots + ms) Q (F0 m (pc + 3) ls (.int r :: rest))) : W p l e R s m args below meth c H locs cells slots Q (F0 m pc ls st0) := by
  obtain ⟨hPc, hDc⟩ := hB.cut isC hnc hC
  have hFc := va_free (wc := wc) hB.2.1 hB.2.2 hA isC hC
  subst hst
  have hrv : ∃ cell : Cell, H[b]? = some cell ∧ cell.vm.isStatics = false ∧ s.vm.findClass y.cls = some cell.cls := by
    obtain ⟨q, hq⟩ : ∃ q, vwCl[ci]? = some q := by
      cases h : vwCl[ci]? with
      | none => rw [h] at hci; cases hci
      | some q => exact ⟨q, rfl⟩
    have h2 := va_recv F.2 hB.1 hq hq0
    rw [hq] at hci
    have h3 : q.1 = y.cls := Option.some.inj hci
    rw [h3] at h2
    exact h2
  refine va_calli (va_runV (C := y.cls) (rest := rest) F.1 (hM H.size) ⟨hL.cb F hRm, F.t _ hV.1, F.t _ hV.2⟩ ⟨Pre.blind D k wc H.size _, hrv, fun U hU hW => ⟨rfl, by rw [hU], by rw [hU]; exact hPc, va_K.moved hW.alike F.2, hDc.weaken (fun _ _ _ _ => trivial)⟩⟩ rfl hnp hls rfl (lv_room hW) hdg hf) hB.2.2 (fun q _ h => hFc q h) hFc (fun r u t H1 locs1 ht hvm hw hW hz1 hk1 hS1 => ?_)
  subst ht
  exact kk r u _ _ hw (hB.join hA isC isR hC hRs hn hdis hk1 hW.1 hW.2.2 hS1)
theorem k_vv {Qp : va_W → Prop} (F : Fx p m c cc nL s args own D k) (hA : ∀ q : Nat, H0.size ≤ q → A q) (hB : Bd D A H0 ws H locs) (hM : CtV l y cd n ret fr lo mc ms D k (.ref b :: As) wc Qp) (hL : MLp own idx y cd n ret np) (hV : MVp y) (isC isR : List Nat) (hC : isC.map (fun i => ws[i]?) = wc.map some) (hRs : isR.map (fun i => ws[i]?) = wr.map some) (hnc : va_nd isC = true) (hn : va_nd isR = true) (hdis : ∀ i ∈ isR, i ∉ isC)
    (q0 : Nat) {ci : Nat} {fs : List Value} (hq0 : ws[q0]? = some (b, .inr (ci, fs))) (hci : (vwCl[ci]?).map (fun q => q.1) = some y.cls) (hnp : As.length = np) (hls : ls.size = nL) (hst : st0 = As.reverse ++ .ref b :: rest) (hW : (rest.map fun v => v.category).sum ≤ 8) (hRm : fr + 1 ≤ R.frames ∧ 8 + (n + 11) + lo ≤ R.locals) (hf : cells + mc ≤ R.cells ∧ slots + ms ≤ R.slots) (hdg : decode cc pc = .ok (.invokevirtual idx, 3))
    (kk : ∀ (w1 : va_W) (H1 : Heap) (locs1 : List Loc), Qp w1 → Bd D A H0 (wr ++ w1) H1 locs1 → W p l e R s m args below meth c H1 locs1 (cells + mc) (slots + ms) Q (F0 m (pc + 3) ls rest)) : W p l e R s m args below meth c H locs cells slots Q (F0 m pc ls st0) := by
  obtain ⟨hPc, hDc⟩ := hB.cut isC hnc hC
  have hFc := va_free (wc := wc) hB.2.1 hB.2.2 hA isC hC
  subst hst
  have hrv : ∃ cell : Cell, H[b]? = some cell ∧ cell.vm.isStatics = false ∧ s.vm.findClass y.cls = some cell.cls := by
    obtain ⟨q, hq⟩ : ∃ q, vwCl[ci]? = some q := by
      cases h : vwCl[ci]? with
      | none => rw [h] at hci; cases hci
      | some q => exact ⟨q, rfl⟩
    have h2 := va_recv F.2 hB.1 hq hq0
    rw [hq] at hci
    have h3 : q.1 = y.cls := Option.some.inj hci
    rw [h3] at h2
    exact h2
  refine va_callv (va_runV (C := y.cls) (rest := rest) F.1 (hM H.size) ⟨hL.cb F hRm, F.t _ hV.1, F.t _ hV.2⟩ ⟨Pre.blind D k wc H.size _, hrv, fun U hU hW => ⟨rfl, by rw [hU], by rw [hU]; exact hPc, va_K.moved hW.alike F.2, hDc.weaken (fun _ _ _ _ => trivial)⟩⟩ rfl hnp hls rfl (lv_room hW) hdg hf) hB.2.2 (fun q _ h => hFc q h) hFc (fun u t H1 locs1 ht hvm hw hW hz1 hk1 hS1 => ?_)
  subst ht
  exact kk u _ _ hw (hB.join hA isC isR hC hRs hn hdis hk1 hW.1 hW.2.2 hS1)
theorem k_si {Qp : Int32 → va_W → Prop} (F : Fx p m c cc nL s args own D k) (hA : ∀ q : Nat, H0.size ≤ q → A q) (hB : Bd D A H0 ws H locs) (hM : CtI l y cd n ret fr lo mc ms D k As wc Qp) (hL : MLp own idx y cd n ret np) (hV : Cond.static y ∈ UU) (isC isR : List Nat) (hC : isC.map (fun i => ws[i]?) = wc.map some) (hRs : isR.map (fun i => ws[i]?) = wr.map some) (hnc : va_nd isC = true) (hn : va_nd isR = true) (hdis : ∀ i ∈ isR, i ∉ isC)
    (hnp : As.length = np) (hls : ls.size = nL) (hst : st0 = As.reverse ++ rest) (hW : (rest.map fun v => v.category).sum ≤ 8) (hRm : fr + 1 ≤ R.frames ∧ 8 + (n + 11) + lo ≤ R.locals) (hf : cells + mc ≤ R.cells ∧ slots + ms ≤ R.slots) (hdg : decode cc pc = .ok (.invokestatic idx, 3))
    (kk : ∀ (r : Int32) (w1 : va_W) (H1 : Heap) (locs1 : List Loc), Qp r w1 → Bd D A H0 (wr ++ w1) H1 locs1 → W p l e R s m args below meth c H1 locs1 (cells + mc) (slots + ms) Q (F0 m (pc + 3) ls (.int r :: rest))) : W p l e R s m args below meth c H locs cells slots Q (F0 m pc ls st0) := by
  obtain ⟨hPc, hDc⟩ := hB.cut isC hnc hC
  have hFc := va_free (wc := wc) hB.2.1 hB.2.2 hA isC hC
  subst hst
  refine va_calli (va_runS (rest := rest) F.1 (hM H.size) ⟨hL.cb F hRm, F.t _ hV⟩ ⟨Pre.blind D k wc H.size _, fun U hU hW => ⟨rfl, by rw [hU], by rw [hU]; exact hPc, va_K.moved hW.alike F.2, hDc.weaken (fun _ _ _ _ => trivial)⟩⟩ rfl hnp hls rfl (lv_room hW) hdg hf) hB.2.2 (fun q _ h => hFc q h) hFc (fun r u t H1 locs1 ht hvm hw hW hz1 hk1 hS1 => ?_)
  subst ht
  exact kk r u _ _ hw (hB.join hA isC isR hC hRs hn hdis hk1 hW.1 hW.2.2 hS1)
end CALL
end MYK
theorem inW0 : ∀ w ∈ u_ws RX0 TX0 (nf 0), w ∈ UU := inUs (by decide +kernel)
theorem inW1 : ∀ w ∈ u_ws RX1 TX1 (nf 1), w ∈ UU := inUs (by decide +kernel)
theorem inW2 : ∀ w ∈ u_ws RX2 TX2 (nf 2), w ∈ UU := inUs (by decide +kernel)
theorem inW3 : ∀ w ∈ u_ws RX3 TX3 (nf 3), w ∈ UU := inUs (by decide +kernel)
theorem inW4 : ∀ w ∈ u_ws RX4 TX4 (nf 4), w ∈ UU := inUs (by decide +kernel)
theorem inW5 : ∀ w ∈ u_ws RX5 TX5 (nf 5), w ∈ UU := inUs (by decide +kernel)
theorem inW6 : ∀ w ∈ u_ws RX6 TX6 (nf 6), w ∈ UU := inUs (by decide +kernel)
theorem inW7 : ∀ w ∈ u_ws RX7 TX7 (nf 7), w ∈ UU := inUs (by decide +kernel)
theorem inW8 : ∀ w ∈ u_ws RX8 TX8 (nf 8), w ∈ UU := inUs (by decide +kernel)
theorem inW9 : ∀ w ∈ u_ws RX9 TX9 (nf 9), w ∈ UU := inUs (by decide +kernel)
theorem inW10 : ∀ w ∈ u_ws RX10 TX10 (nf 10), w ∈ UU := inUs (by decide +kernel)
theorem inW11 : ∀ w ∈ u_ws RX11 TX11 (nf 11), w ∈ UU := inUs (by decide +kernel)
theorem inW12 : ∀ w ∈ u_ws RX12 TX12 (nf 12), w ∈ UU := inUs (by decide +kernel)
