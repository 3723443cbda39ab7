/-! calls on a part of a row of blocks: what stands ahead and behind is kept -/
theorem rg_map {α : Type} (l pre post : List α) : (List.range' pre.length l.length).map (fun i => (pre ++ (l ++ post))[i]?) = l.map some := by
  apply List.ext_getElem?
  intro j
  by_cases hj : j < l.length
  · rw [List.getElem?_map, List.getElem?_range' hj, List.getElem?_map, List.getElem?_eq_getElem hj]
    simp only [Option.map_some, Nat.one_mul]
    rw [List.getElem?_append_right (by omega), Nat.add_sub_cancel_left, List.getElem?_append_left hj, List.getElem?_eq_getElem hj]
  · rw [List.getElem?_eq_none (by simp; omega), List.getElem?_eq_none (by simp; omega)]
theorem rg_nd : ∀ (n a : Nat), va_nd (List.range' a n) = true
  | 0, _ => rfl
  | n + 1, a => by
    rw [List.range'_succ]
    simp only [va_nd, Bool.and_eq_true, decide_eq_true_eq]
    exact ⟨fun h => by have := (List.mem_range'_1.mp h).1; omega, rg_nd n (a + 1)⟩
theorem nd_app : ∀ (l1 l2 : List Nat), va_nd l1 = true → va_nd l2 = true → (∀ a ∈ l1, a ∉ l2) → va_nd (l1 ++ l2) = true
  | [], l2, _, h2, _ => h2
  | a :: l1, l2, h1, h2, h3 => by
    simp only [va_nd, Bool.and_eq_true, decide_eq_true_eq] at h1
    simp only [List.cons_append, va_nd, Bool.and_eq_true, decide_eq_true_eq]
    refine ⟨fun h => ?_, nd_app l1 l2 h1.2 h2 (fun b hb => h3 b (List.mem_cons_of_mem _ hb))⟩
    rcases List.mem_append.mp h with h | h
    · exact h1.1 h
    · exact h3 a List.mem_cons_self h
/-- places of the part, of the rest -/
def plC (pre wc : va_W) : List Nat := List.range' pre.length wc.length
def plR (pre wc post : va_W) : List Nat := List.range' 0 pre.length ++ List.range' (pre.length + wc.length) post.length
theorem plC_ok (pre wc post : va_W) : (plC pre wc).map (fun i => (pre ++ (wc ++ post))[i]?) = wc.map some := rg_map wc pre post
theorem plR_ok (pre wc post : va_W) : (plR pre wc post).map (fun i => (pre ++ (wc ++ post))[i]?) = (pre ++ post).map some := by
  unfold plR
  rw [List.map_append, List.map_append]
  congr 1
  · exact rg_map pre [] (wc ++ post)
  · have h := rg_map post (pre ++ wc) []
    rw [List.length_append, List.append_nil, List.append_assoc] at h
    exact h
theorem plR_nd (pre wc post : va_W) : va_nd (plR pre wc post) = true := by
  refine nd_app _ _ (rg_nd _ _) (rg_nd _ _) (fun a h1 h2 => ?_)
  have a1 := List.mem_range'_1.mp h1
  have a2 := List.mem_range'_1.mp h2
  omega
theorem pl_dis (pre wc post : va_W) : ∀ i ∈ plR pre wc post, i ∉ plC pre wc := by
  intro i h1 h2
  have a2 := List.mem_range'_1.mp h2
  rcases List.mem_append.mp h1 with h | h
  · have a1 := List.mem_range'_1.mp h
    omega
  · have a1 := List.mem_range'_1.mp h
    omega
/-- back into the row -/
theorem Bd.back {D : va_G} {A : Nat → Prop} {H0 : Heap} {pre post w1 : va_W} {H : Heap} {locs : List Loc} (h : Bd D A H0 ((pre ++ post) ++ w1) H locs) : Bd D A H0 (pre ++ (w1 ++ post)) H locs := by
  refine h.sub (List.range' 0 pre.length ++ (List.range' (pre.length + post.length) w1.length ++ List.range' pre.length post.length)) ?_ ?_
  · refine nd_app _ _ (rg_nd _ _) (nd_app _ _ (rg_nd _ _) (rg_nd _ _) (fun a h1 h2 => ?_)) (fun a h1 h2 => ?_)
    · have a1 := List.mem_range'_1.mp h1
      have a2 := List.mem_range'_1.mp h2
      omega
    · have a1 := List.mem_range'_1.mp h1
      rcases List.mem_append.mp h2 with h | h
      · have a2 := List.mem_range'_1.mp h
        omega
      · have a2 := List.mem_range'_1.mp h
        omega
  · rw [List.map_append, List.map_append, List.map_append, List.map_append]
    congr 1
    · have h1 := rg_map pre [] (post ++ w1)
      rw [List.nil_append, ← List.append_assoc] at h1
      exact h1
    · congr 1
      · have h2 := rg_map w1 (pre ++ post) []
        rw [List.length_append, List.append_nil] at h2
        exact h2
      · have h3 := rg_map post pre w1
        rw [← List.append_assoc] at h3
        exact h3
section APP
variable {p : Program} {l : Launch} {e : Env} {R : Room} {s : State} {m : MethodId} {args : Array Value} {below : List Frame} {meth : Method} {c : Code} {H : Heap} {locs : List Loc} {cells slots : Nat} {Q : State → Prop}
variable {cc : ByteArray} {pc nL : Nat} {ls : Array Slot} {rest : List Value} {D : va_G} {A : Nat → Prop} {a : Nat} {k : Nat → ClassId} {own : String} {idx : Nat} {K : Nat → Nat}
variable {y : MethodName} {cd : ByteArray} {n : Nat} {ret : Option FieldType} {np fr lo mc ms : Nat} {As : List Value} {b : Nat} {st0 : List Value} {pre wc post : va_W}
theorem ka_vi {Qp : Int32 → va_W → Prop} (F : Fx p m c cc nL s args own D k) (hA : ∀ q : Nat, s.heap.size ≤ q → A q) (hB : Bd D A s.heap (pre ++ (wc ++ post)) H locs) (hM : CtI l y cd n ret fr lo mc ms D k (.ref b :: As) wc Qp) (hL : MLp own idx y cd n ret np) (hV : MVp y) {ci : Nat} {fs : List Value} (hq0 : wc[0]? = some (b, .inr (ci, fs))) (hci : (vwCl[ci]?).map (fun q => q.1) = some y.cls) (hnp : As.length = np) (hls : ls.size = nL) (hst : st0 = As.reverse ++ .ref b :: rest) (hW : (rest.map fun v => v.category).sum ≤ 8) (hRm : fr + 1 ≤ R.frames ∧ 8 + (n + 11) + lo ≤ R.locals) (hf : cells + mc ≤ R.cells ∧ slots + ms ≤ R.slots) (hdg : decode cc pc = .ok (.invokevirtual idx, 3))
    (kk : ∀ (r : Int32) (w1 : va_W) (H1 : Heap) (locs1 : List Loc), Qp r w1 → Bd D A s.heap (pre ++ (w1 ++ post)) H1 locs1 → W p l e R s m args below meth c H1 locs1 (cells + mc) (slots + ms) Q (F0 m (pc + 3) ls (.int r :: rest))) : W p l e R s m args below meth c H locs cells slots Q (F0 m pc ls st0) :=
  k_vi (wr := pre ++ post) F hA hB hM hL hV (plC pre wc) (plR pre wc post) (plC_ok pre wc post) (plR_ok pre wc post) (rg_nd _ _) (plR_nd pre wc post) (pl_dis pre wc post) pre.length (by
    rw [List.getElem?_append_right (Nat.le_refl _), Nat.sub_self, List.getElem?_append_left (by exact (List.getElem?_eq_some_iff.mp hq0).1)]; exact hq0) hci hnp hls hst hW hRm hf hdg (fun r w1 H1 locs1 hq hB => kk r w1 H1 locs1 hq hB.back)
theorem kb_vi {Qp : Int32 → va_W → Prop} (F : Fx p m c cc nL s args own D k) (hE : Am K A s s.heap) (hA : ∀ q : Nat, s.heap.size ≤ q → A q) (hB : Bd D A s.heap (pre ++ (wc ++ post)) H locs) (hM : CeI l y cd n ret fr lo mc ms D k K (.ref b :: As) wc Qp) (hL : MLp own idx y cd n ret np) (hV : MVp y) {ci : Nat} {fs : List Value} (hq0 : wc[0]? = some (b, .inr (ci, fs))) (hci : (vwCl[ci]?).map (fun q => q.1) = some y.cls) (hnp : As.length = np) (hls : ls.size = nL) (hst : st0 = As.reverse ++ .ref b :: rest) (hW : (rest.map fun v => v.category).sum ≤ 8) (hRm : fr + 1 ≤ R.frames ∧ 8 + (n + 11) + lo ≤ R.locals) (hf : cells + mc ≤ R.cells ∧ slots + ms ≤ R.slots) (hdg : decode cc pc = .ok (.invokevirtual idx, 3))
    (kk : ∀ (r : Int32) (w1 : va_W) (H1 : Heap) (locs1 : List Loc), Qp r w1 → Bd D A s.heap (pre ++ (w1 ++ post)) H1 locs1 → W p l e R s m args below meth c H1 locs1 (cells + mc) (slots + ms) Q (F0 m (pc + 3) ls (.int r :: rest))) : W p l e R s m args below meth c H locs cells slots Q (F0 m pc ls st0) :=
  ke_vi (wr := pre ++ post) F hE hA hB hM hL hV (plC pre wc) (plR pre wc post) (plC_ok pre wc post) (plR_ok pre wc post) (rg_nd _ _) (plR_nd pre wc post) (pl_dis pre wc post) (rcv (y := y) F hB pre.length (by
    rw [List.getElem?_append_right (Nat.le_refl _), Nat.sub_self, List.getElem?_append_left (by exact (List.getElem?_eq_some_iff.mp hq0).1)]; exact hq0) hci) hnp hls hst hW hRm hf hdg (fun r w1 H1 locs1 hq hB => kk r w1 H1 locs1 hq hB.back)
theorem kw_si {hh : List (Nat × Nat × Nat × Nat)} {Qp : Int32 → va_W → Prop} (F : Fx p m c cc nL s args own D k) (hE : Am K A s s.heap) (hA : ∀ q : Nat, s.heap.size ≤ q → A q) (hB : Bd D A s.heap (pre ++ (wc ++ post)) H locs) (hM : CwI l y cd n ret hh fr lo D k K As wc Qp) (hL : MWp own idx y cd n ret hh np) (hnp : As.length = np) (hls : ls.size = nL) (hst : st0 = As.reverse ++ rest) (hW : (rest.map fun v => v.category).sum ≤ 8) (hRm : fr + 1 ≤ R.frames ∧ 8 + (n + 11) + lo ≤ R.locals) (hf : cells + 1 ≤ R.cells ∧ slots + 6 ≤ R.slots) (hdg : decode cc pc = .ok (.invokestatic idx, 3))
    (kk : ∀ (r : Int32) (w1 : va_W) (H1 : Heap) (locs1 : List Loc), Qp r w1 → Bd D A s.heap (pre ++ (w1 ++ post)) H1 locs1 → W p l e R s m args below meth c H1 locs1 (cells + 1) (slots + 6) Q (F0 m (pc + 3) ls (.int r :: rest))) : W p l e R s m args below meth c H locs cells slots Q (F0 m pc ls st0) := by
  have hC := plC_ok pre wc post
  obtain ⟨hPc, hDc⟩ := hB.cut (plC pre wc) (rg_nd _ _) hC
  have hFc := va_free (wc := wc) hB.2.1 hB.2.2 hA (plC pre wc) hC
  subst hst
  have hcw : vx_CSW R s args own idx y cd n ret hh (.codeWith y cd n ret hh :: UU) { frames := fr, cells := 1, slots := 6, locals := lo } 1 6 np :=
    ⟨⟨rfl, rfl, hRm.1, hRm.2, pay_in F.t (good1 hL.2.2.1), List.mem_cons_self⟩, F.t _ hL.2.2.1, F.t _ hL.2.1, ⟨hL.2.2.2.2.1, hL.2.2.2.2.2.1⟩, fun sig h => by
      have h2 := hL.2.2.2.2.2.2
      rw [h] at h2
      exact (Option.some.inj h2).symm, F.t _ hL.1, F.t _ hL.2.2.2.1⟩
  refine va_calli (vx_runSW (rest := rest) F.1 (hM H.size) hcw ⟨PreE.blind D k K wc H.size _, fun U hU hW => ⟨⟨rfl, by rw [hU], by rw [hU]; exact hPc, va_K.moved hW.alike F.2, hDc.weaken (fun _ _ _ _ => trivial)⟩, hE.at hB hA (plC pre wc) hC hU hW⟩⟩ rfl hnp hls rfl (lv_room hW) hdg hf) hB.2.2 (fun q _ h => hFc q h) hFc (fun r u t H1 locs1 ht hvm hw hW hz1 hk1 hS1 => ?_)
  subst ht
  exact kk r u _ _ hw (hB.join hA (plC pre wc) (plR pre wc post) hC (plR_ok pre wc post) (plR_nd pre wc post) (pl_dis pre wc post) hk1 hW.1 hW.2.2 hS1).back
end APP
