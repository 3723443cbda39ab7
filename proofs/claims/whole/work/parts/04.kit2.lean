/-! more of my own rows: slots that change their reference, Math, arraycopy, switches -/
abbrev i0 : Nat → Int32 := fun _ => 0
abbrev d0 : Nat → Nat := fun _ => 0
def mtb (ci k : Nat) : Bool := match ci, k with
  | 4, 3 => true
  | 7, 0 => true
  | 9, 0 => true
  | 9, 1 => true
  | 11, 7 => true
  | 11, 8 => true
  | _, _ => false
def vmx (ci : Nat) (d : Nat → Nat) (w : Nat → Value) : Nat → Value := fun k => cond (mtb ci k) (w k) (.ref (d k))
theorem vmx_upd {ci kf : Nat} (d : Nat → Nat) (w : Nat → Value) (x : Value) (h : mtb ci kf = true) : updV (vmx ci d w) kf x = vmx ci d (updV w kf x) := by
  funext j
  by_cases hj : j = kf
  · subst hj; simp [updV, vmx, h]
  · simp [updV, vmx, hj]
def ushr (x y : Int32) : Int32 := (x.toUInt32 >>> (y.toUInt32 &&& Int32.toUInt32 31)).toInt32
def jmax (x y : Int32) : Int32 := if x < y then y else x
def jmin (x y : Int32) : Int32 := if y < x then y else x
theorem sw_out {x : Int32} {lo hi : Int} (h : ∀ z : Int, lo ≤ z → z ≤ hi → x.toInt = z → False) : x.toInt < lo ∨ hi < x.toInt := by
  rcases Int.lt_or_le x.toInt lo with h1 | h1
  · exact Or.inl h1
  · rcases Int.lt_or_le hi x.toInt with h2 | h2
    · exact Or.inr h2
    · exact absurd rfl (fun z => h x.toInt h1 h2 z)
theorem st_max : Cond.static Lib.Math.max.name ∈ UU := inU (by decide +kernel)
theorem st_min : Cond.static Lib.Math.min.name ∈ UU := inU (by decide +kernel)
theorem in_math : Cond.initialized "java/lang/Math" ∈ UU := inU (by decide +kernel)
theorem cd_max : Cond.code Lib.Math.max.name Lib.Math.max.code 2 (some .int) ∈ UU := inU (by decide +kernel)
theorem cd_min : Cond.code Lib.Math.min.name Lib.Math.min.code 2 (some .int) ∈ UU := inU (by decide +kernel)
theorem st_copy : Cond.static arraycopyName ∈ UU := inU (by decide +kernel)
theorem nt_copy : Cond.native arraycopyName ∈ UU := inU (by decide +kernel)
theorem in_sys : Cond.initialized "java/lang/System" ∈ UU := inU (by decide +kernel)
section MYK2
variable {p : Program} {l : Launch} {e : Env} {R : Room} {s : State} {m : MethodId} {args : Array Value} {below : List Frame} {meth : Method} {c : Code} {H : Heap} {locs : List Loc} {cells slots : Nat} {Q : State → Prop}
variable {cc : ByteArray} {pc nL : Nat} {ls : Array Slot} {rest : List Value} {D : va_G} {A : Nat → Prop} {a : Nat} {k : Nat → ClassId} {ws : va_W} {H0 : Heap} {own : String} {idx : Nat}
theorem g_putm (F : Fx p m c cc nL s args own D k) (hB : Bd D A H0 ws H locs) (q0 : Nat) {ci kf : Nat} {d : Nat → Nat} {w : Nat → Value} {i : Nat → Int32} {j : Nat → Int64} {x : Value} {ft : FieldType} (he : ws[q0]? = some (a, ob ci (vmx ci d w) i j)) (hL : FLp own idx ci kf false ft) (hk : kd ci kf = 2) (hm : mtb ci kf = true) (hn : narrow ft x = x) (hft : fits ft x = true) (ws' : va_W) (hw : ws.set q0 (a, ob ci (vmx ci d (updV w kf x)) i j) = ws') (hdg : decode cc pc = .ok (.putfield idx, 3))
    (kk : ∀ (H1 : Heap) (locs1 : List Loc), Bd D A H0 ws' H1 locs1 → W p l e R s m args below meth c H1 locs1 cells slots Q (F0 m (pc + 3) ls rest)) : W p l e R s m args below meth c H locs cells slots Q (F0 m pc ls (x :: .ref a :: rest)) :=
  g_putv F hB q0 he hL hk hn hft ws' (by rw [vmx_upd d w x hm]; exact hw) hdg kk
theorem k_max (F : Fx p m c cc nL s args own D k) (hl : Cond.methodLink own idx Lib.Math.max.name ∈ UU) (hs : ls.size = nL) (hframes : 1 ≤ R.frames) (hlocals : (rest.map fun v => v.category).sum + 13 ≤ R.locals) (hc : cells ≤ R.cells) (hs2 : slots ≤ R.slots) {x y : Int32} (hdg : decode cc pc = .ok (.invokestatic idx, 3))
    (kk : W p l e R s m args below meth c H locs cells slots Q (F0 m (pc + 3) ls (.int (jmax x y) :: rest))) : W p l e R s m args below meth c H locs cells slots Q (F0 m pc ls (.int y :: .int x :: rest)) :=
  va_mmax F.x F.b (by rw [F.ml, hs]) F.o (F.t _ hl) (F.t _ st_max) (F.t _ in_math) (F.t _ cd_max) hframes hlocals hc hs2 hdg kk
theorem k_min (F : Fx p m c cc nL s args own D k) (hl : Cond.methodLink own idx Lib.Math.min.name ∈ UU) (hs : ls.size = nL) (hframes : 1 ≤ R.frames) (hlocals : (rest.map fun v => v.category).sum + 13 ≤ R.locals) (hc : cells ≤ R.cells) (hs2 : slots ≤ R.slots) {x y : Int32} (hdg : decode cc pc = .ok (.invokestatic idx, 3))
    (kk : W p l e R s m args below meth c H locs cells slots Q (F0 m (pc + 3) ls (.int (jmin x y) :: rest))) : W p l e R s m args below meth c H locs cells slots Q (F0 m pc ls (.int y :: .int x :: rest)) :=
  va_mmin F.x F.b (by rw [F.ml, hs]) F.o (F.t _ hl) (F.t _ st_min) (F.t _ in_math) (F.t _ cd_min) hframes hlocals hc hs2 hdg kk
theorem k_copy (F : Fx p m c cc nL s args own D k) (hB : Bd D A H0 ws H locs) (hl : Cond.methodLink own idx arraycopyName ∈ UU) (hs : ls.size = nL) (q0 q1 : Nat) {a0 : Nat} {n0 n1 : Nat} {f g : Nat → Int32} (ha0 : ws[q0]? = some (a0, ai k n0 f)) (ha1 : ws[q1]? = some (a, ai k n1 g)) {sp dp n : Int32} (h1 : ¬ sp < 0) (h2 : ¬ dp < 0) (h3 : ¬ n < 0) (h4 : sp.toNatClampNeg + n.toNatClampNeg ≤ n0) (h5 : dp.toNatClampNeg + n.toNatClampNeg ≤ n1) (hframes : 1 ≤ R.frames) (hlocals : (rest.map fun v => v.category).sum + (nativeFrameWords "java/lang/System" "arraycopy" 5 + 11) ≤ R.locals) (ws' : va_W) (hw : ws.set q1 (a, ai k n1 (va_cpy f g sp.toNatClampNeg dp.toNatClampNeg n.toNatClampNeg)) = ws') (hdg : decode cc pc = .ok (.invokestatic idx, 3))
    (kk : ∀ (H1 : Heap) (locs1 : List Loc), Bd D A H0 ws' H1 locs1 → W p l e R s m args below meth c H1 locs1 cells slots Q (F0 m (pc + 3) ls rest)) : W p l e R s m args below meth c H locs cells slots Q (F0 m pc ls (.int n :: .int dp :: .ref a :: .int sp :: .ref a0 :: rest)) :=
  va_copyi (ty := .int) F.x F.b (by rw [F.ml, hs]) F.o (F.t _ hl) (F.t _ nt_copy) (F.t _ st_copy) (F.t _ in_sys) F.2 hB.1 hB.2.1 hB.2.2 q0 q1 0 0 ha0 ha1 rfl rfl rfl h1 h2 h3 h4 h5 (fun _ _ => rfl) hframes hlocals hdg (fun H1 locs1 a1 a2 a3 => kk H1 locs1 ⟨hw ▸ a1, hw ▸ a2, a3⟩)
end MYK2
