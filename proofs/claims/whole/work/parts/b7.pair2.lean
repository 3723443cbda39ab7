/-! image, restore and what throws, together (mkpair2.py) -/
theorem CwI.mono {l : Launch} {y : MethodName} {cd : ByteArray} {n : Nat} {ret : Option FieldType} {hh : List (Nat × Nat × Nat × Nat)} {fr lo : Nat} {D : va_G} {k : Nat → ClassId} {K : Nat → Nat} {av : List Value} {ws : va_W} {Qp Qp' : Int32 → va_W → Prop} (h : CwI l y cd n ret hh fr lo D k K av ws Qp) (hq : ∀ r w, Qp r w → Qp' r w) : CwI l y cd n ret hh fr lo D k K av ws Qp' := fun sz =>
  Met.fr (h sz) (fun _ _ hp => hp) (fun _ _ _ _ _ ⟨⟨r, u, ho, hp, hW⟩, hF⟩ => ⟨⟨r, u, ho, hq r u hp, hW⟩, hF⟩) (fun _ hq => hq)
noncomputable def imA (v : Int) : Int32 := if 0 ≤ v ∧ v ≤ 1 then 1 else 0
noncomputable def imU (im : Nat → Option VT) (v : Int) (V : VT) : Nat → Option VT := if 0 ≤ v ∧ v ≤ 1 then imS im v.toNat V else im
noncomputable def rsG (im : Nat → Option VT) (v : Int) : Option VT := if 0 ≤ v ∧ v ≤ 1 then im v.toNat else none
theorem imS_s {im : Nat → Option VT} {j : Nat} {V : VT} : imS im j V j = some V := by unfold imS; rw [if_pos rfl]
theorem imS_n {im : Nat → Option VT} {j q : Nat} {V : VT} (h : q ≠ j) : imS im j V q = im q := by unfold imS; rw [if_neg h]
theorem MF.im {σ : Nat → Int} {T : TS} {P : PS} {Z : ZT} {im : Nat → Option VT} {i s tp bp la ja : F32} {rv : Nat → Int64} {isK kept isK' kept' : F32} (M : MF σ T P Z im i s tp bp la ja rv isK kept) {k : Nat} (hk : k < 2) {V : VT} (h1 : ∀ q, q < 1068 → kept' (1068 * k + q) = eI (V.1 q)) (h2 : ∀ q, q < 1068 → kept' (1068 * (1 - k) + q) = kept (1068 * (1 - k) + q)) (h3 : isK' k = 1) (h4 : isK' (1 - k) = isK (1 - k)) : MF σ T P Z (imS im k V) i s tp bp la ja rv isK' kept' := by
  refine ⟨M.s, M.R, M.RP, M.n, M.t, M.f, M.pm, M.pp, M.lm, M.lp, M.jh, M.jt, M.rv, fun j hj h0 => ?_, fun j V1 hj h0 => ?_⟩
  · by_cases e : j = k
    · subst e; rw [imS_s] at h0; cases h0
    · rw [imS_n e] at h0
      have ej : j = 1 - k := by omega
      subst ej
      rw [h4]; exact M.i0 _ hj h0
  · by_cases e : j = k
    · subst e; rw [imS_s] at h0; cases h0
      exact ⟨h3, h1⟩
    · rw [imS_n e] at h0
      have ej : j = 1 - k := by omega
      subst ej
      obtain ⟨g1, g2⟩ := M.i1 _ _ hj h0
      exact ⟨h4.trans g1, fun q hq => (h2 q hq).trans (g2 q hq)⟩
theorem MF_rs {σ : Nat → Int} {T : TS} {P : PS} {Z : ZT} {im : Nat → Option VT} {i s tp bp la ja : F32} {rv : Nat → Int64} {isK kept s' : F32} (M : MF σ T P Z im i s tp bp la ja rv isK kept) {V : VT} (O : LOk V.1) (K : TOk V.1 V.2.1) (R : RT V.1 V.2.1) (PK : POk V.2.2) (RP' : RP V.1 V.2.2) (h : ∀ q, q < 1068 → s' q = eI (V.1 q)) : ∃ σ1, EqA V.1 σ1 ∧ s' = eF σ1 ∧ MF σ1 V.2.1 V.2.2 Z im i s' tp bp la ja rv isK kept := by
  have e : EqA V.1 (fun q => if q < 1068 then V.1 q else (s' q).toInt) := fun q hq => by
    show (if q < 1068 then V.1 q else (s' q).toInt) = _
    rw [if_pos hq]
  have es : s' = eF (fun q => if q < 1068 then V.1 q else (s' q).toInt) := by
    funext q
    show s' q = eI (if q < 1068 then V.1 q else (s' q).toInt)
    by_cases hq : q < 1068
    · rw [if_pos hq]; exact h q hq
    · rw [if_neg hq]; exact (eI_of _).symm
  exact ⟨_, e, es, es, RT.g O Eqv.rf e R K, RP'.g (fun q _ hq => e q hq) PK, M.n, M.t, M.f, M.pm, M.pp, M.lm, M.lp, M.jh, M.jt, M.rv, M.i0, M.i1⟩

set_option maxRecDepth 100000 in
set_option maxHeartbeats 4000000 in
theorem N_image (l : Launch) (D : va_G) (k : Nat → ClassId) {am : Nat} {σ : Nat → Int} {T : TS} {P : PS} {Z : ZT} {im : Nat → Option VT} {w : va_W} (V : ZOk σ T P Z im) (h : MS k am σ T P Z im w) {v1 : Int} (b1 : B31 v1) : CtI l yX12_image cX12_image 3 (some .boolean) 1 22 0 0 D k [.ref am, .int (eI v1)] w (fun r w' => r = imA v1 ∧ MS k am σ T P Z (imU im v1 (σ, T, P)) w') := by
  obtain ⟨d_t, i_t, j_t, r_t_tape, r_t_s, r_t_h, r_t_read, r_t_names, r_t_reserved, r_t_wagons, r_t_foremost, r_t_bears, r_t_strengths, r_t_worn, r_t_worst, r_t_places, r_t_bestPlaces, r_t_loadMay, r_t_loadAt, r_t_told, r_t_mostLoads, r_t_judgedAt, r_t_before, r_t_kept, r_t_namesKept, r_t_isKept, rfl, M⟩ := h
  have hs := M.s
  subst hs
  refine CtI.mono (cf_LongTrainModel_image l D k am d_t i_t j_t r_t_tape (eF σ) r_t_h r_t_read r_t_names r_t_reserved r_t_wagons r_t_foremost r_t_bears r_t_strengths r_t_worn r_t_worst r_t_places r_t_bestPlaces r_t_loadMay r_t_loadAt r_t_told r_t_mostLoads r_t_judgedAt r_t_before r_t_kept r_t_namesKept r_t_isKept (eI v1) (fun r i_t' r_t_kept' r_t_isKept' r_t_namesKept' => r = imA v1 ∧ MF σ T P Z (imU im v1 (σ, T, P)) i_t' (eF σ) r_t_tape r_t_bestPlaces r_t_loadAt r_t_judgedAt r_t_reserved r_t_isKept' r_t_kept') ?_) (fun r w1_ hq => ?_)
  · refine M_image b1 (fun h i' K => ⟨?_, ?_⟩) (fun h i' kp' ik' nk' K h1 h2 h3 h4 => ⟨?_, ?_⟩)
    · unfold imA; rw [if_neg h]
    · unfold imU; rw [if_neg h]; exact M.kp K
    · unfold imA; rw [if_pos h]
    · unfold imU; rw [if_pos h]; exact (M.kp K).im (by omega) h1 h2 h3 h4
  · obtain ⟨hz, i_t', r_t_kept', r_t_isKept', r_t_namesKept', rfl, hr⟩ := hq
    have mk : ∀ {σ' : Nat → Int} {T' : TS} {P' : PS} {Z' : ZT} {im' : Nat → Option VT}, MF σ' T' P' Z' im' i_t' (eF σ) r_t_tape r_t_bestPlaces r_t_loadAt r_t_judgedAt r_t_reserved r_t_isKept' r_t_kept' → MS k am σ' T' P' Z' im' (wdF_LongTrainModel k am d_t i_t' j_t r_t_tape (eF σ) r_t_h r_t_read r_t_names r_t_reserved r_t_wagons r_t_foremost r_t_bears r_t_strengths r_t_worn r_t_worst r_t_places r_t_bestPlaces r_t_loadMay r_t_loadAt r_t_told r_t_mostLoads r_t_judgedAt r_t_before r_t_kept' r_t_namesKept' r_t_isKept') := fun M' => ⟨d_t, i_t', j_t, r_t_tape, (eF σ), r_t_h, r_t_read, r_t_names, r_t_reserved, r_t_wagons, r_t_foremost, r_t_bears, r_t_strengths, r_t_worn, r_t_worst, r_t_places, r_t_bestPlaces, r_t_loadMay, r_t_loadAt, r_t_told, r_t_mostLoads, r_t_judgedAt, r_t_before, r_t_kept', r_t_namesKept', r_t_isKept', rfl, M'⟩
    exact ⟨hr.1, mk hr.2⟩

set_option maxRecDepth 100000 in
set_option maxHeartbeats 4000000 in
theorem N_restore (l : Launch) (D : va_G) (k : Nat → ClassId) {am : Nat} {σ : Nat → Int} {T : TS} {P : PS} {Z : ZT} {im : Nat → Option VT} {w : va_W} (V : ZOk σ T P Z im) (h : MS k am σ T P Z im w) {v1 : Int} (b1 : B31 v1) : CtI l yX12_restore cX12_restore 3 (some .boolean) 1 22 0 0 D k [.ref am, .int (eI v1)] w (fun r w' => (rsG im v1 = none ∧ r = 0 ∧ MS k am σ T P Z im w') ∨ (∃ V0, rsG im v1 = some V0 ∧ r = 1 ∧ ∃ σ1, EqA V0.1 σ1 ∧ MS k am σ1 V0.2.1 V0.2.2 Z im w')) := by
  obtain ⟨d_t, i_t, j_t, r_t_tape, r_t_s, r_t_h, r_t_read, r_t_names, r_t_reserved, r_t_wagons, r_t_foremost, r_t_bears, r_t_strengths, r_t_worn, r_t_worst, r_t_places, r_t_bestPlaces, r_t_loadMay, r_t_loadAt, r_t_told, r_t_mostLoads, r_t_judgedAt, r_t_before, r_t_kept, r_t_namesKept, r_t_isKept, rfl, M⟩ := h
  have hs := M.s
  subst hs
  refine CtI.mono (cf_LongTrainModel_restore l D k am d_t i_t j_t r_t_tape (eF σ) r_t_h r_t_read r_t_names r_t_reserved r_t_wagons r_t_foremost r_t_bears r_t_strengths r_t_worn r_t_worst r_t_places r_t_bestPlaces r_t_loadMay r_t_loadAt r_t_told r_t_mostLoads r_t_judgedAt r_t_before r_t_kept r_t_namesKept r_t_isKept (eI v1) (fun r i_t' r_t_s' r_t_names' => (rsG im v1 = none ∧ r = 0 ∧ MF σ T P Z im i_t' r_t_s' r_t_tape r_t_bestPlaces r_t_loadAt r_t_judgedAt r_t_reserved r_t_isKept r_t_kept) ∨ (∃ V0, rsG im v1 = some V0 ∧ r = 1 ∧ ∃ σ1, EqA V0.1 σ1 ∧ MF σ1 V0.2.1 V0.2.2 Z im i_t' r_t_s' r_t_tape r_t_bestPlaces r_t_loadAt r_t_judgedAt r_t_reserved r_t_isKept r_t_kept)) ?_) (fun r w1_ hq => ?_)
  · refine M_restore b1 (fun h i' K => Or.inl ⟨?_, rfl, M.kp K⟩) (fun h h0 i' s' nm' K hs => ?_)
    · unfold rsG
      by_cases hv : 0 ≤ v1 ∧ v1 ≤ 1
      · rw [if_pos hv]
        rcases h with h | h
        · exact absurd hv h
        · cases e : im v1.toNat with
          | none => rfl
          | some V0 => 
            have := (M.i1 _ _ (by omega) e).1
            rw [h] at this
            exact absurd this (by decide)
      · rw [if_neg hv]
    · cases e : im v1.toNat with
      | none => exact absurd (M.i0 _ (by omega) e) h0
      | some V0 =>
        obtain ⟨g1, g2⟩ := M.i1 _ _ (by omega) e
        obtain ⟨a1, a2, a3, a4, a5⟩ := V.im _ _ e
        obtain ⟨σ1, e1, e2, M1⟩ := MF_rs (M.kp K) a1 a2 a3 a4 a5 (fun q hq => (hs q hq).trans (g2 q hq))
        exact Or.inr ⟨V0, by unfold rsG; rw [if_pos h]; exact e, rfl, σ1, e1, M1⟩
  · obtain ⟨hz, i_t', r_t_s', r_t_names', rfl, hr⟩ := hq
    have mk : ∀ {σ' : Nat → Int} {T' : TS} {P' : PS} {Z' : ZT} {im' : Nat → Option VT}, MF σ' T' P' Z' im' i_t' r_t_s' r_t_tape r_t_bestPlaces r_t_loadAt r_t_judgedAt r_t_reserved r_t_isKept r_t_kept → MS k am σ' T' P' Z' im' (wdF_LongTrainModel k am d_t i_t' j_t r_t_tape r_t_s' r_t_h r_t_read r_t_names' r_t_reserved r_t_wagons r_t_foremost r_t_bears r_t_strengths r_t_worn r_t_worst r_t_places r_t_bestPlaces r_t_loadMay r_t_loadAt r_t_told r_t_mostLoads r_t_judgedAt r_t_before r_t_kept r_t_namesKept r_t_isKept) := fun M' => ⟨d_t, i_t', j_t, r_t_tape, r_t_s', r_t_h, r_t_read, r_t_names', r_t_reserved, r_t_wagons, r_t_foremost, r_t_bears, r_t_strengths, r_t_worn, r_t_worst, r_t_places, r_t_bestPlaces, r_t_loadMay, r_t_loadAt, r_t_told, r_t_mostLoads, r_t_judgedAt, r_t_before, r_t_kept, r_t_namesKept, r_t_isKept, rfl, M'⟩
    rcases hr with ⟨h1, h2, M'⟩ | ⟨V0, h1, h2, σ1, h3, M'⟩
    · exact Or.inl ⟨h1, h2, mk M'⟩
    · exact Or.inr ⟨V0, h1, h2, σ1, h3, mk M'⟩

theorem imIn {σ : Nat → Int} {T : TS} {P : PS} {Z : ZT} {im : Nat → Option VT} {k : Nat → ClassId} {am : Nat} {wm : va_W} (V : ZOk σ T P Z im) (hm : MS k am σ T P Z im wm) {j : Nat} : ZOk σ T P Z (imS im j (σ, T, P)) := ⟨V.O, V.K, V.PK, V.c, V.n, V.pm, V.lm, fun q V1 h => by
  by_cases e : q = j
  · subst e; rw [imS_s] at h; cases h
    exact ⟨V.O, V.K, hm.rt.1, V.PK, hm.rt.2⟩
  · rw [imS_n e] at h; exact V.im _ _ h⟩
theorem eI_in01 {v : Int} (h : 0 ≤ v ∧ v ≤ 1) : (v = 0 ∧ eI v = 0) ∨ (v = 1 ∧ eI v = 1) := by
  have : v = 0 ∨ v = 1 := by omega
  rcases this with rfl | rfl
  · exact Or.inl ⟨rfl, by decide⟩
  · exact Or.inr ⟨rfl, by decide⟩

theorem P_image (l : Launch) (D : va_G) (k : Nat → ClassId) (K : Nat → Nat) {ax am : Nat} {wx wm : va_W} (h : Inv k ax am wx wm) (n1 : Int32) : ∃ fr lo mc ms, fr ≤ 6 ∧ lo ≤ 127 ∧ mc ≤ 26 ∧ ms ≤ 846 ∧ CeI l yX11_image cX11_image 2 (some .boolean) fr lo mc ms D k K [.ref ax, .int n1] wx (fun r wx' => CtI l yX12_image cX12_image 3 (some .boolean) 1 22 0 0 D k [.ref am, .int n1] wm (fun r' wm' => r' = r ∧ Inv k ax am wx' wm')) := by
  obtain ⟨σ, T, P, Z, im, V, hx, hm⟩ := h
  obtain ⟨v1, b1, rfl⟩ := ei_ex n1
  by_cases hv : 0 ≤ v1 ∧ v1 ≤ 1
  · have hN := N_image l D k V hm b1
    rcases eI_in01 hv with ⟨rfl, e⟩ | ⟨rfl, e⟩
    · rw [e] at hN ⊢
      cases hi : im 0 with
      | none =>
        refine ⟨_, _, _, _, Nat.le_of_ble_eq_true rfl, Nat.le_of_ble_eq_true rfl, Nat.le_of_ble_eq_true rfl, Nat.le_of_ble_eq_true rfl, CeI.mono (X_image_0n l D k K V hx hi) (fun r wx' hq => ?_)⟩
        refine CtI.mono hN (fun r' wm' hq' => ?_)
        obtain ⟨hr, hx'⟩ := hq
        obtain ⟨hr', hm'⟩ := hq'
        unfold imA at hr'
        unfold imU at hm'
        rw [if_pos hv] at hr' hm'
        exact ⟨hr'.trans hr.symm, σ, T, P, Z, _, imIn V hm, hx', hm'⟩
      | some V0 =>
        refine ⟨_, _, _, _, Nat.le_of_ble_eq_true rfl, Nat.le_of_ble_eq_true rfl, Nat.le_of_ble_eq_true rfl, Nat.le_of_ble_eq_true rfl, CeI.mono (X_image_0e l D k K V hx hi) (fun r wx' hq => ?_)⟩
        refine CtI.mono hN (fun r' wm' hq' => ?_)
        obtain ⟨hr, hx'⟩ := hq
        obtain ⟨hr', hm'⟩ := hq'
        unfold imA at hr'
        unfold imU at hm'
        rw [if_pos hv] at hr' hm'
        exact ⟨hr'.trans hr.symm, σ, T, P, Z, _, imIn V hm, hx', hm'⟩
    · rw [e] at hN ⊢
      cases hi : im 1 with
      | none =>
        refine ⟨_, _, _, _, Nat.le_of_ble_eq_true rfl, Nat.le_of_ble_eq_true rfl, Nat.le_of_ble_eq_true rfl, Nat.le_of_ble_eq_true rfl, CeI.mono (X_image_1n l D k K V hx hi) (fun r wx' hq => ?_)⟩
        refine CtI.mono hN (fun r' wm' hq' => ?_)
        obtain ⟨hr, hx'⟩ := hq
        obtain ⟨hr', hm'⟩ := hq'
        unfold imA at hr'
        unfold imU at hm'
        rw [if_pos hv] at hr' hm'
        exact ⟨hr'.trans hr.symm, σ, T, P, Z, _, imIn V hm, hx', hm'⟩
      | some V0 =>
        refine ⟨_, _, _, _, Nat.le_of_ble_eq_true rfl, Nat.le_of_ble_eq_true rfl, Nat.le_of_ble_eq_true rfl, Nat.le_of_ble_eq_true rfl, CeI.mono (X_image_1e l D k K V hx hi) (fun r wx' hq => ?_)⟩
        refine CtI.mono hN (fun r' wm' hq' => ?_)
        obtain ⟨hr, hx'⟩ := hq
        obtain ⟨hr', hm'⟩ := hq'
        unfold imA at hr'
        unfold imU at hm'
        rw [if_pos hv] at hr' hm'
        exact ⟨hr'.trans hr.symm, σ, T, P, Z, _, imIn V hm, hx', hm'⟩
  · refine ⟨_, _, _, _, Nat.le_of_ble_eq_true rfl, Nat.le_of_ble_eq_true rfl, Nat.le_of_ble_eq_true rfl, Nat.le_of_ble_eq_true rfl, CeI.mono (X_image_b l D k K V hx b1 hv) (fun r wx' hq => ?_)⟩
    refine CtI.mono (N_image l D k V hm b1) (fun r' wm' hq' => ?_)
    obtain ⟨hr, hx'⟩ := hq
    obtain ⟨hr', hm'⟩ := hq'
    unfold imA at hr'
    unfold imU at hm'
    rw [if_neg hv] at hr' hm'
    exact ⟨hr'.trans hr.symm, σ, T, P, Z, im, V, hx', hm'⟩

theorem P_restore (l : Launch) (D : va_G) (k : Nat → ClassId) (K : Nat → Nat) {ax am : Nat} {wx wm : va_W} (h : Inv k ax am wx wm) (n1 : Int32) : ∃ fr lo mc ms, fr ≤ 4 ∧ lo ≤ 127 ∧ mc ≤ 0 ∧ ms ≤ 0 ∧ CeI l yX11_restore cX11_restore 2 (some .boolean) fr lo mc ms D k K [.ref ax, .int n1] wx (fun r wx' => CtI l yX12_restore cX12_restore 3 (some .boolean) 1 22 0 0 D k [.ref am, .int n1] wm (fun r' wm' => r' = r ∧ Inv k ax am wx' wm')) := by
  obtain ⟨σ, T, P, Z, im, V, hx, hm⟩ := h
  obtain ⟨v1, b1, rfl⟩ := ei_ex n1
  by_cases hv : 0 ≤ v1 ∧ v1 ≤ 1
  · have hN := N_restore l D k V hm b1
    rcases eI_in01 hv with ⟨rfl, e⟩ | ⟨rfl, e⟩
    · rw [e] at hN ⊢
      have hg : rsG im 0 = im 0 := by unfold rsG; rw [if_pos hv]; rfl
      rw [hg] at hN
      cases hi : im 0 with
      | none =>
        refine ⟨_, _, _, _, Nat.le_of_ble_eq_true rfl, Nat.le_of_ble_eq_true rfl, Nat.le_of_ble_eq_true rfl, Nat.le_of_ble_eq_true rfl, CeI.mono (X_restore_0n l D k K V hx hi) (fun r wx' hq => ?_)⟩
        refine CtI.mono hN (fun r' wm' hq' => ?_)
        obtain ⟨hr, hx'⟩ := hq
        rcases hq' with ⟨_, hr', hm'⟩ | ⟨V0, h1, _⟩
        · exact ⟨hr'.trans hr.symm, σ, T, P, Z, im, V, hx', hm'⟩
        · rw [hi] at h1; cases h1
      | some V0 =>
        refine ⟨_, _, _, _, Nat.le_of_ble_eq_true rfl, Nat.le_of_ble_eq_true rfl, Nat.le_of_ble_eq_true rfl, Nat.le_of_ble_eq_true rfl, CeI.mono (X_restore_0e l D k K V hx hi) (fun r wx' hq => ?_)⟩
        refine CtI.mono hN (fun r' wm' hq' => ?_)
        obtain ⟨hr, hx'⟩ := hq
        rcases hq' with ⟨h1, _⟩ | ⟨V1, h1, hr', σ1, e1, hm'⟩
        · rw [hi] at h1; cases h1
        · rw [hi] at h1; cases h1
          obtain ⟨a1, a2, a3, a4, a5⟩ := V.im _ _ hi
          have ev : Eqv V0.1 σ1 := e1.v Eqv.rf
          exact ⟨hr'.trans hr.symm, σ1, _, _, Z, im, ⟨a1.c ev, a2.e a1 ev, a4, hm'.rt.2.n, V.n, V.pm, V.lm, V.im⟩, hx'.e a1 a2 ev, hm'⟩
    · rw [e] at hN ⊢
      have hg : rsG im 1 = im 1 := by unfold rsG; rw [if_pos hv]; rfl
      rw [hg] at hN
      cases hi : im 1 with
      | none =>
        refine ⟨_, _, _, _, Nat.le_of_ble_eq_true rfl, Nat.le_of_ble_eq_true rfl, Nat.le_of_ble_eq_true rfl, Nat.le_of_ble_eq_true rfl, CeI.mono (X_restore_1n l D k K V hx hi) (fun r wx' hq => ?_)⟩
        refine CtI.mono hN (fun r' wm' hq' => ?_)
        obtain ⟨hr, hx'⟩ := hq
        rcases hq' with ⟨_, hr', hm'⟩ | ⟨V0, h1, _⟩
        · exact ⟨hr'.trans hr.symm, σ, T, P, Z, im, V, hx', hm'⟩
        · rw [hi] at h1; cases h1
      | some V0 =>
        refine ⟨_, _, _, _, Nat.le_of_ble_eq_true rfl, Nat.le_of_ble_eq_true rfl, Nat.le_of_ble_eq_true rfl, Nat.le_of_ble_eq_true rfl, CeI.mono (X_restore_1e l D k K V hx hi) (fun r wx' hq => ?_)⟩
        refine CtI.mono hN (fun r' wm' hq' => ?_)
        obtain ⟨hr, hx'⟩ := hq
        rcases hq' with ⟨h1, _⟩ | ⟨V1, h1, hr', σ1, e1, hm'⟩
        · rw [hi] at h1; cases h1
        · rw [hi] at h1; cases h1
          obtain ⟨a1, a2, a3, a4, a5⟩ := V.im _ _ hi
          have ev : Eqv V0.1 σ1 := e1.v Eqv.rf
          exact ⟨hr'.trans hr.symm, σ1, _, _, Z, im, ⟨a1.c ev, a2.e a1 ev, a4, hm'.rt.2.n, V.n, V.pm, V.lm, V.im⟩, hx'.e a1 a2 ev, hm'⟩
  · refine ⟨_, _, _, _, Nat.le_of_ble_eq_true rfl, Nat.le_of_ble_eq_true rfl, Nat.le_of_ble_eq_true rfl, Nat.le_of_ble_eq_true rfl, CeI.mono (X_restore_b l D k K V hx b1 hv) (fun r wx' hq => ?_)⟩
    refine CtI.mono (N_restore l D k V hm b1) (fun r' wm' hq' => ?_)
    obtain ⟨hr, hx'⟩ := hq
    unfold rsG at hq'
    rw [if_neg hv] at hq'
    rcases hq' with ⟨_, hr', hm'⟩ | ⟨V0, h1, _⟩
    · exact ⟨hr'.trans hr.symm, σ, T, P, Z, im, V, hx', hm'⟩
    · cases h1

theorem MSt.m0 {k : Nat → ClassId} {am : Nat} {σ : Nat → Int} {T : TS} {P : PS} {Z : ZT} {im : Nat → Option VT} {th : Int32} {w : va_W} (h : MSt k am σ T P Z im th w) : ∃ fs, w[0]? = some (am, .inr (12, fs)) := by
  obtain ⟨d_t, i_t, j_t, r_t_tape, r_t_s, r_t_h, r_t_read, r_t_names, r_t_reserved, r_t_wagons, r_t_foremost, r_t_bears, r_t_strengths, r_t_worn, r_t_worst, r_t_places, r_t_bestPlaces, r_t_loadMay, r_t_loadAt, r_t_told, r_t_mostLoads, r_t_judgedAt, r_t_before, r_t_kept, r_t_namesKept, r_t_isKept, rfl, M, _⟩ := h
  exact ⟨_, rfl⟩
set_option maxRecDepth 100000 in
set_option maxHeartbeats 4000000 in
theorem P_grade (l : Launch) (hst : l.stackTraces = false) (D : va_G) (k : Nat → ClassId) (K : Nat → Nat) {ax am ao : Nat} {ro : Nat → Int64} {wx wm : va_W} (h : Inv k ax am wx wm) (n1 : Int32) : CwI l yL_grade cL_grade 4 (some .int) [(0, 9, 12, 13)] 7 111 D k K [.ref ax, .int n1, .ref ao] ((ao, aj k 1 ro) :: wx) (fun r w' => ∃ (ro' : Nat → Int64) (wx' : va_W), w' = (ao, aj k 1 ro') :: wx' ∧ CtI l yX12_grade cX12_grade 2 (some .int) 1 22 0 0 D k [.ref am, .int n1] wm (fun r' wm' => CtI l yX12_thrown cX12_thrown 1 (some .int) 0 0 0 0 D k [.ref am] wm' (fun r2 wm2 => r2 = r ∧ (r = 0 → ro' 0 = r'.toInt64) ∧ (r = 0 ∨ r = 1) ∧ Inv k ax am wx' wm2) ∧ ∃ fs, wm'[0]? = some (am, .inr (12, fs)))) := by
  obtain ⟨σ, T, P, Z, im, V, hx, hm⟩ := h
  obtain ⟨v1, b1, rfl⟩ := ei_ex n1
  refine CwI.mono (Y_grade l hst D k K V hx b1) (fun r w' hq => ?_)
  obtain ⟨ro', wx', rfl, hx', hq⟩ := hq
  refine ⟨ro', wx', rfl, CtI.mono (N_grade l D k V hm b1) (fun r' wm' hq' => ?_)⟩
  rcases hq with ⟨z, h1, h2, h3⟩ | ⟨h1, h2⟩
  · rcases hq' with ⟨z', h1', h2', hm'⟩ | ⟨h1', hm'⟩
    · refine ⟨CtI.mono (N_thrown l D k hm') (fun r2 wm2 hq2 => ?_), hm'.m0⟩
      have e : z = z' := Option.some.inj (h1.symm.trans h1')
      exact ⟨hq2.1.trans h2.symm, fun _ => by rw [h3, h2', e], Or.inl h2, σ, T, P, Z, im, V, hx', hq2.2⟩
    · rw [h1] at h1'; cases h1'
  · rcases hq' with ⟨z', h1', h2', hm'⟩ | ⟨h1', hm'⟩
    · rw [h1] at h1'; cases h1'
    · refine ⟨CtI.mono (N_thrown l D k hm') (fun r2 wm2 hq2 => ?_), hm'.m0⟩
      exact ⟨hq2.1.trans h2.symm, fun h0 => absurd (h0.symm.trans h2) (by decide), Or.inr h2, σ, T, P, Z, im, V, hx', hq2.2⟩

set_option maxRecDepth 100000 in
set_option maxHeartbeats 4000000 in
theorem P_halt (l : Launch) (hst : l.stackTraces = false) (D : va_G) (k : Nat → ClassId) (K : Nat → Nat) {ax am ao : Nat} {ro : Nat → Int64} {wx wm : va_W} (h : Inv k ax am wx wm) (n1 : Int32) (n2 : Int32) : CwI l yL_halt cL_halt 5 (some .int) [(0, 10, 13, 13)] 7 112 D k K [.ref ax, .int n1, .int n2, .ref ao] ((ao, aj k 1 ro) :: wx) (fun r w' => ∃ (ro' : Nat → Int64) (wx' : va_W), w' = (ao, aj k 1 ro') :: wx' ∧ CtI l yX12_halt cX12_halt 3 (some .int) 2 43 0 0 D k [.ref am, .int n1, .int n2] wm (fun r' wm' => CtI l yX12_thrown cX12_thrown 1 (some .int) 0 0 0 0 D k [.ref am] wm' (fun r2 wm2 => r2 = r ∧ (r = 0 → ro' 0 = r'.toInt64) ∧ (r = 0 ∨ r = 1) ∧ Inv k ax am wx' wm2) ∧ ∃ fs, wm'[0]? = some (am, .inr (12, fs)))) := by
  obtain ⟨σ, T, P, Z, im, V, hx, hm⟩ := h
  obtain ⟨v1, b1, rfl⟩ := ei_ex n1
  obtain ⟨v2, b2, rfl⟩ := ei_ex n2
  refine CwI.mono (Y_halt l hst D k K V hx b1 b2) (fun r w' hq => ?_)
  obtain ⟨ro', wx', rfl, hx', hq⟩ := hq
  refine ⟨ro', wx', rfl, CtI.mono (N_halt l D k V hm b1 b2) (fun r' wm' hq' => ?_)⟩
  rcases hq with ⟨z, h1, h2, h3⟩ | ⟨h1, h2⟩
  · rcases hq' with ⟨z', h1', h2', hm'⟩ | ⟨h1', hm'⟩
    · refine ⟨CtI.mono (N_thrown l D k hm') (fun r2 wm2 hq2 => ?_), hm'.m0⟩
      have e : z = z' := Option.some.inj (h1.symm.trans h1')
      exact ⟨hq2.1.trans h2.symm, fun _ => by rw [h3, h2', e], Or.inl h2, σ, T, P, Z, im, V, hx', hq2.2⟩
    · rw [h1] at h1'; cases h1'
  · rcases hq' with ⟨z', h1', h2', hm'⟩ | ⟨h1', hm'⟩
    · rw [h1] at h1'; cases h1'
    · refine ⟨CtI.mono (N_thrown l D k hm') (fun r2 wm2 hq2 => ?_), hm'.m0⟩
      exact ⟨hq2.1.trans h2.symm, fun h0 => absurd (h0.symm.trans h2) (by decide), Or.inr h2, σ, T, P, Z, im, V, hx', hq2.2⟩

set_option maxRecDepth 100000 in
set_option maxHeartbeats 4000000 in
theorem P_kind (l : Launch) (hst : l.stackTraces = false) (D : va_G) (k : Nat → ClassId) (K : Nat → Nat) {ax am ao : Nat} {ro : Nat → Int64} {wx wm : va_W} (h : Inv k ax am wx wm) (n1 : Int32) (n2 : Int32) : CwI l yL_kind cL_kind 5 (some .int) [(0, 10, 13, 13)] 7 112 D k K [.ref ax, .int n1, .int n2, .ref ao] ((ao, aj k 1 ro) :: wx) (fun r w' => ∃ (ro' : Nat → Int64) (wx' : va_W), w' = (ao, aj k 1 ro') :: wx' ∧ CtI l yX12_kind cX12_kind 3 (some .int) 2 43 0 0 D k [.ref am, .int n1, .int n2] wm (fun r' wm' => CtI l yX12_thrown cX12_thrown 1 (some .int) 0 0 0 0 D k [.ref am] wm' (fun r2 wm2 => r2 = r ∧ (r = 0 → ro' 0 = r'.toInt64) ∧ (r = 0 ∨ r = 1) ∧ Inv k ax am wx' wm2) ∧ ∃ fs, wm'[0]? = some (am, .inr (12, fs)))) := by
  obtain ⟨σ, T, P, Z, im, V, hx, hm⟩ := h
  obtain ⟨v1, b1, rfl⟩ := ei_ex n1
  obtain ⟨v2, b2, rfl⟩ := ei_ex n2
  refine CwI.mono (Y_kind l hst D k K V hx b1 b2) (fun r w' hq => ?_)
  obtain ⟨ro', wx', rfl, hx', hq⟩ := hq
  refine ⟨ro', wx', rfl, CtI.mono (N_kind l D k V hm b1 b2) (fun r' wm' hq' => ?_)⟩
  rcases hq with ⟨z, h1, h2, h3⟩ | ⟨h1, h2⟩
  · rcases hq' with ⟨z', h1', h2', hm'⟩ | ⟨h1', hm'⟩
    · refine ⟨CtI.mono (N_thrown l D k hm') (fun r2 wm2 hq2 => ?_), hm'.m0⟩
      have e : z = z' := Option.some.inj (h1.symm.trans h1')
      exact ⟨hq2.1.trans h2.symm, fun _ => by rw [h3, h2', e], Or.inl h2, σ, T, P, Z, im, V, hx', hq2.2⟩
    · rw [h1] at h1'; cases h1'
  · rcases hq' with ⟨z', h1', h2', hm'⟩ | ⟨h1', hm'⟩
    · rw [h1] at h1'; cases h1'
    · refine ⟨CtI.mono (N_thrown l D k hm') (fun r2 wm2 hq2 => ?_), hm'.m0⟩
      exact ⟨hq2.1.trans h2.symm, fun h0 => absurd (h0.symm.trans h2) (by decide), Or.inr h2, σ, T, P, Z, im, V, hx', hq2.2⟩

set_option maxRecDepth 100000 in
set_option maxHeartbeats 4000000 in
theorem P_wagon (l : Launch) (hst : l.stackTraces = false) (D : va_G) (k : Nat → ClassId) (K : Nat → Nat) {ax am ao : Nat} {ro : Nat → Int64} {wx wm : va_W} (h : Inv k ax am wx wm) (n1 : Int32) (n2 : Int32) : CwI l yL_wagon cL_wagon 5 (some .int) [(0, 10, 13, 13)] 7 113 D k K [.ref ax, .int n1, .int n2, .ref ao] ((ao, aj k 1 ro) :: wx) (fun r w' => ∃ (ro' : Nat → Int64) (wx' : va_W), w' = (ao, aj k 1 ro') :: wx' ∧ CtI l yX12_wagon cX12_wagon 3 (some .int) 3 67 0 0 D k [.ref am, .int n1, .int n2] wm (fun r' wm' => CtI l yX12_thrown cX12_thrown 1 (some .int) 0 0 0 0 D k [.ref am] wm' (fun r2 wm2 => r2 = r ∧ (r = 0 → ro' 0 = r'.toInt64) ∧ (r = 0 ∨ r = 1) ∧ Inv k ax am wx' wm2) ∧ ∃ fs, wm'[0]? = some (am, .inr (12, fs)))) := by
  obtain ⟨σ, T, P, Z, im, V, hx, hm⟩ := h
  obtain ⟨v1, b1, rfl⟩ := ei_ex n1
  obtain ⟨v2, b2, rfl⟩ := ei_ex n2
  refine CwI.mono (Y_wagon l hst D k K V hx b1 b2) (fun r w' hq => ?_)
  obtain ⟨ro', wx', rfl, hx', hq⟩ := hq
  refine ⟨ro', wx', rfl, CtI.mono (N_wagon l D k V hm b1 b2) (fun r' wm' hq' => ?_)⟩
  rcases hq with ⟨z, h1, h2, h3⟩ | ⟨h1, h2⟩
  · rcases hq' with ⟨z', h1', h2', hm'⟩ | ⟨h1', hm'⟩
    · refine ⟨CtI.mono (N_thrown l D k hm') (fun r2 wm2 hq2 => ?_), hm'.m0⟩
      have e : z = z' := Option.some.inj (h1.symm.trans h1')
      exact ⟨hq2.1.trans h2.symm, fun _ => by rw [h3, h2', e], Or.inl h2, σ, T, P, Z, im, V, hx', hq2.2⟩
    · rw [h1] at h1'; cases h1'
  · rcases hq' with ⟨z', h1', h2', hm'⟩ | ⟨h1', hm'⟩
    · rw [h1] at h1'; cases h1'
    · refine ⟨CtI.mono (N_thrown l D k hm') (fun r2 wm2 hq2 => ?_), hm'.m0⟩
      exact ⟨hq2.1.trans h2.symm, fun h0 => absurd (h0.symm.trans h2) (by decide), Or.inr h2, σ, T, P, Z, im, V, hx', hq2.2⟩

set_option maxRecDepth 100000 in
set_option maxHeartbeats 4000000 in
theorem P_half (l : Launch) (hst : l.stackTraces = false) (D : va_G) (k : Nat → ClassId) (K : Nat → Nat) {ax am ao : Nat} {ro : Nat → Int64} {wx wm : va_W} (h : Inv k ax am wx wm) (n1 : Int32) (n2 : Int32) : CwI l yL_half cL_half 5 (some .int) [(0, 10, 13, 13)] 7 113 D k K [.ref ax, .int n1, .int n2, .ref ao] ((ao, aj k 1 ro) :: wx) (fun r w' => ∃ (ro' : Nat → Int64) (wx' : va_W), w' = (ao, aj k 1 ro') :: wx' ∧ CtI l yX12_half cX12_half 7 (some .int) 2 45 0 0 D k [.ref am, .int n1, .int n2] wm (fun r' wm' => CtI l yX12_thrown cX12_thrown 1 (some .int) 0 0 0 0 D k [.ref am] wm' (fun r2 wm2 => r2 = r ∧ (r = 0 → ro' 0 = r'.toInt64) ∧ (r = 0 ∨ r = 1) ∧ Inv k ax am wx' wm2) ∧ ∃ fs, wm'[0]? = some (am, .inr (12, fs)))) := by
  obtain ⟨σ, T, P, Z, im, V, hx, hm⟩ := h
  obtain ⟨v1, b1, rfl⟩ := ei_ex n1
  obtain ⟨v2, b2, rfl⟩ := ei_ex n2
  refine CwI.mono (Y_half l hst D k K V hx b1 b2) (fun r w' hq => ?_)
  obtain ⟨ro', wx', rfl, hx', hq⟩ := hq
  refine ⟨ro', wx', rfl, CtI.mono (N_half l D k V hm b1 b2) (fun r' wm' hq' => ?_)⟩
  rcases hq with ⟨z, h1, h2, h3⟩ | ⟨h1, h2⟩
  · rcases hq' with ⟨z', h1', h2', hm'⟩ | ⟨h1', hm'⟩
    · refine ⟨CtI.mono (N_thrown l D k hm') (fun r2 wm2 hq2 => ?_), hm'.m0⟩
      have e : z = z' := Option.some.inj (h1.symm.trans h1')
      exact ⟨hq2.1.trans h2.symm, fun _ => by rw [h3, h2', e], Or.inl h2, σ, T, P, Z, im, V, hx', hq2.2⟩
    · rw [h1] at h1'; cases h1'
  · rcases hq' with ⟨z', h1', h2', hm'⟩ | ⟨h1', hm'⟩
    · rw [h1] at h1'; cases h1'
    · refine ⟨CtI.mono (N_thrown l D k hm') (fun r2 wm2 hq2 => ?_), hm'.m0⟩
      exact ⟨hq2.1.trans h2.symm, fun h0 => absurd (h0.symm.trans h2) (by decide), Or.inr h2, σ, T, P, Z, im, V, hx', hq2.2⟩

set_option maxRecDepth 100000 in
set_option maxHeartbeats 4000000 in
theorem P_strain (l : Launch) (hst : l.stackTraces = false) (D : va_G) (k : Nat → ClassId) (K : Nat → Nat) {ax am ao : Nat} {ro : Nat → Int64} {wx wm : va_W} (h : Inv k ax am wx wm) (n1 : Int32) (n2 : Int32) (n3 : Int32) : CwI l yL_strain cL_strain 6 (some .int) [(0, 12, 15, 13)] 8 165 D k K [.ref ax, .int n1, .int n2, .int n3, .ref ao] ((ao, aj k 1 ro) :: wx) (fun r w' => ∃ (ro' : Nat → Int64) (wx' : va_W), w' = (ao, aj k 1 ro') :: wx' ∧ CtI l yX12_strain cX12_strain 4 (some .int) 4 92 0 0 D k [.ref am, .int n1, .int n2, .int n3] wm (fun r' wm' => CtI l yX12_thrown cX12_thrown 1 (some .int) 0 0 0 0 D k [.ref am] wm' (fun r2 wm2 => r2 = r ∧ (r = 0 → ro' 0 = r'.toInt64) ∧ (r = 0 ∨ r = 1) ∧ Inv k ax am wx' wm2) ∧ ∃ fs, wm'[0]? = some (am, .inr (12, fs)))) := by
  obtain ⟨σ, T, P, Z, im, V, hx, hm⟩ := h
  obtain ⟨v1, b1, rfl⟩ := ei_ex n1
  obtain ⟨v2, b2, rfl⟩ := ei_ex n2
  obtain ⟨v3, b3, rfl⟩ := ei_ex n3
  refine CwI.mono (Y_strain l hst D k K V hx b1 b2 b3) (fun r w' hq => ?_)
  obtain ⟨ro', wx', rfl, hx', hq⟩ := hq
  refine ⟨ro', wx', rfl, CtI.mono (N_strain l D k V hm b1 b2 b3) (fun r' wm' hq' => ?_)⟩
  rcases hq with ⟨z, h1, h2, h3⟩ | ⟨h1, h2⟩
  · rcases hq' with ⟨z', h1', h2', hm'⟩ | ⟨h1', hm'⟩
    · refine ⟨CtI.mono (N_thrown l D k hm') (fun r2 wm2 hq2 => ?_), hm'.m0⟩
      have e : z = z' := Option.some.inj (h1.symm.trans h1')
      exact ⟨hq2.1.trans h2.symm, fun _ => by rw [h3, h2', e], Or.inl h2, σ, T, P, Z, im, V, hx', hq2.2⟩
    · rw [h1] at h1'; cases h1'
  · rcases hq' with ⟨z', h1', h2', hm'⟩ | ⟨h1', hm'⟩
    · rw [h1] at h1'; cases h1'
    · refine ⟨CtI.mono (N_thrown l D k hm') (fun r2 wm2 hq2 => ?_), hm'.m0⟩
      exact ⟨hq2.1.trans h2.symm, fun h0 => absurd (h0.symm.trans h2) (by decide), Or.inr h2, σ, T, P, Z, im, V, hx', hq2.2⟩

set_option maxRecDepth 100000 in
set_option maxHeartbeats 4000000 in
theorem P_squeeze (l : Launch) (hst : l.stackTraces = false) (D : va_G) (k : Nat → ClassId) (K : Nat → Nat) {ax am ao : Nat} {ro : Nat → Int64} {wx wm : va_W} (h : Inv k ax am wx wm) (n1 : Int32) (n2 : Int32) (n3 : Int32) : CwI l yL_squeeze cL_squeeze 6 (some .int) [(0, 12, 15, 13)] 8 165 D k K [.ref ax, .int n1, .int n2, .int n3, .ref ao] ((ao, aj k 1 ro) :: wx) (fun r w' => ∃ (ro' : Nat → Int64) (wx' : va_W), w' = (ao, aj k 1 ro') :: wx' ∧ CtI l yX12_squeeze cX12_squeeze 4 (some .int) 4 92 0 0 D k [.ref am, .int n1, .int n2, .int n3] wm (fun r' wm' => CtI l yX12_thrown cX12_thrown 1 (some .int) 0 0 0 0 D k [.ref am] wm' (fun r2 wm2 => r2 = r ∧ (r = 0 → ro' 0 = r'.toInt64) ∧ (r = 0 ∨ r = 1) ∧ Inv k ax am wx' wm2) ∧ ∃ fs, wm'[0]? = some (am, .inr (12, fs)))) := by
  obtain ⟨σ, T, P, Z, im, V, hx, hm⟩ := h
  obtain ⟨v1, b1, rfl⟩ := ei_ex n1
  obtain ⟨v2, b2, rfl⟩ := ei_ex n2
  obtain ⟨v3, b3, rfl⟩ := ei_ex n3
  refine CwI.mono (Y_squeeze l hst D k K V hx b1 b2 b3) (fun r w' hq => ?_)
  obtain ⟨ro', wx', rfl, hx', hq⟩ := hq
  refine ⟨ro', wx', rfl, CtI.mono (N_squeeze l D k V hm b1 b2 b3) (fun r' wm' hq' => ?_)⟩
  rcases hq with ⟨z, h1, h2, h3⟩ | ⟨h1, h2⟩
  · rcases hq' with ⟨z', h1', h2', hm'⟩ | ⟨h1', hm'⟩
    · refine ⟨CtI.mono (N_thrown l D k hm') (fun r2 wm2 hq2 => ?_), hm'.m0⟩
      have e : z = z' := Option.some.inj (h1.symm.trans h1')
      exact ⟨hq2.1.trans h2.symm, fun _ => by rw [h3, h2', e], Or.inl h2, σ, T, P, Z, im, V, hx', hq2.2⟩
    · rw [h1] at h1'; cases h1'
  · rcases hq' with ⟨z', h1', h2', hm'⟩ | ⟨h1', hm'⟩
    · rw [h1] at h1'; cases h1'
    · refine ⟨CtI.mono (N_thrown l D k hm') (fun r2 wm2 hq2 => ?_), hm'.m0⟩
      exact ⟨hq2.1.trans h2.symm, fun h0 => absurd (h0.symm.trans h2) (by decide), Or.inr h2, σ, T, P, Z, im, V, hx', hq2.2⟩
