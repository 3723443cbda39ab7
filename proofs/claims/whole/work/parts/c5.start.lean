/-! the law's entry -/
theorem Bd.nil {D : va_G} {A : Nat → Prop} {H : Heap} : Bd D A H [] H [] := ⟨fun k q h => by simp at h, ⟨fun i j p q h => by simp at h, fun k q h => by simp at h⟩, va_S.rf⟩
set_option maxRecDepth 100000 in
set_option maxHeartbeats 4000000 in
theorem law_start {p : Program} {l : Launch} {e : Env} {s : State} {m : MethodId} {below : List Frame} {meth : Method} {c : Code} {D : va_G} {k : Nat → ClassId} {K : Nat → Nat} {b L : Nat} {xs : Nat → Int32} {Q : State → Prop} (C : Cx p l s m meth c D k K b L xs) (hend : ∀ (H : Heap) (ls : Array Slot), W p l e room_1 s m #[Value.ref b] below meth c H [] 601024 7293034 Q (F0 m 1765 ls [])) {ls : Array Slot} (hl : lv_has ls 7 [(0, .ref b)]) : W p l e room_1 s m #[Value.ref b] below meth c s.heap [] 0 0 Q (F0 m 0 ls []) := by
  have F := C.F
  have hx := F.x
  have hb := F.b
  have hA : ∀ q : Nat, s.heap.size ≤ q → (fun q : Nat => s.heap.size ≤ q) q := fun _ h => h
  have hB : Bd D (fun q : Nat => s.heap.size ≤ q) s.heap [] s.heap [] := Bd.nil
  refine g_new (ci := 11) (N := 13) F hA hB rfl ne_RL_8 (Nat.le_of_ble_eq_true rfl) (Nat.le_of_ble_eq_true rfl) dL_law_0 (fun ax H hB => ?_)
  replace hB : Bd D (fun q : Nat => s.heap.size ≤ q) s.heap [(ax, ob 11 vN z0 zj)] H [] := hB
  refine lv_dup hx hb dL_law_3 rfl ?_
  refine k_ip (wr := []) (rest := [.ref ax]) F C.E hA hB (X_init l D k K ax) mi_RL_35 ic_LongTrain [0] [] rfl rfl (by decide) (by decide) (by decide) hl.1 (Nat.le_of_ble_eq_true rfl) ⟨Nat.le_of_ble_eq_true rfl, Nat.le_of_ble_eq_true rfl⟩ ⟨Nat.le_of_ble_eq_true rfl, Nat.le_of_ble_eq_true rfl⟩ dL_law_4 (fun wx H locs hX hB => ?_)
  replace hB : Bd D (fun q : Nat => s.heap.size ≤ q) s.heap wx H locs := hB
  refine lv_astore_n (lv' := [(1, .ref ax), (0, .ref b)]) hx hb dL_law_7 rfl hl (by decide) rfl (fun ls hl => ?_)
  refine g_new (ci := 12) (N := 49) F hA hB rfl ne_RL_36 (Nat.le_of_ble_eq_true rfl) (Nat.le_of_ble_eq_true rfl) dL_law_8 (fun am H hB => ?_)
  replace hB : Bd D (fun q : Nat => s.heap.size ≤ q) s.heap (wx ++ ([(am, ob 12 vN z0 zj)] ++ [])) H locs := hB
  refine lv_dup hx hb dL_law_11 rfl ?_
  refine k_ip (wr := wx ++ []) (rest := [.ref am]) F C.E hA hB (N_init l D k K am) mi_RL_38 ic_LongTrainModel (plC wx [(am, ob 12 vN z0 zj)]) (plR wx [(am, ob 12 vN z0 zj)] []) (plC_ok wx _ []) (plR_ok wx _ []) (rg_nd _ _) (plR_nd _ _ _) (pl_dis _ _ _) hl.1 (Nat.le_of_ble_eq_true rfl) ⟨Nat.le_of_ble_eq_true rfl, Nat.le_of_ble_eq_true rfl⟩ ⟨Nat.le_of_ble_eq_true rfl, Nat.le_of_ble_eq_true rfl⟩ dL_law_12 (fun wm H locs hM hB => ?_)
  rw [List.append_nil] at hB
  refine lv_astore_n (lv' := [(2, .ref am), (1, .ref ax), (0, .ref b)]) hx hb dL_law_15 rfl hl (by decide) rfl (fun ls hl => ?_)
  refine lv_iconst (v := 1) hx hb dL_law_16 (by decide) ?_
  refine g_newj (N := 1) F hA hB (by decide) (by decide) (by decide) (Nat.le_of_ble_eq_true rfl) (Nat.le_of_ble_eq_true rfl) dL_law_17 (fun ao H hB => ?_)
  replace hB : Bd D (fun q : Nat => s.heap.size ≤ q) s.heap ((ao, aj k 1 zj) :: (wx ++ wm)) H locs := hB.sub _ (app_pm (wx ++ wm) [(ao, aj k 1 zj)]).1 (app_pm (wx ++ wm) [(ao, aj k 1 zj)]).2
  refine lv_astore_n (lv' := [(3, .ref ao), (2, .ref am), (1, .ref ax), (0, .ref b)]) hx hb dL_law_19 rfl hl (by decide) rfl (fun ls hl => ?_)
  refine lv_iconst (v := 0) hx hb dL_law_20 (by decide) ?_
  refine lv_istore (lv' := [(4, .int 0), (3, .ref ao), (2, .ref am), (1, .ref ax), (0, .ref b)]) hx hb dL_law_21 hl (by decide) rfl (fun ls hl => ?_)
  have hI : Inv k ax am wx wm := ⟨sI, T0 sI, fP 0 z0f, zI, fun _ => none, sI_Z, hX, hM⟩
  exact W.widen (Nat.le_of_ble_eq_true rfl) (Nat.le_of_ble_eq_true rfl) (law_loop C hend 512 0 (by omega) (by omega) zj wx wm H locs ls hI hB (lv_sub hl [4, 3, 2, 1, 0] rfl))
