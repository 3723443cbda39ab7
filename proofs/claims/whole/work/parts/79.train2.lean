/-! half; and the class -/
noncomputable def hbh (τ : Nat → Int) (u : Int) : Int := if lf (fun i => u < AT τ i) (τ 1).toNat < (τ 1).toNat then (lf (fun i => u < AT τ i) (τ 1).toNat : Int) else -1
noncomputable def halfS (τ : Nat → Int) (T : TS) (k : Nat) (w : Int) : Int := if w = 0 then T.vs k else if w = 1 then T.vu k else if w = 2 then sm (fun j => LG τ (T.vk k j)) (T.vs k) else if w = 3 then hbh τ (T.vu k) else sm (dg τ (T.vk k) (T.vu k + 1)) (T.vs k)
theorem M_half {τ σ : Nat → Int} (O : LOk τ) (e : Eqv τ σ) {T : TS} (R : RT σ T) (K : TOk τ T) {i : F32} {x v : Int} (hx : B31 x) (hv : B31 v) {Q : Int32 → F32 → Prop} (h0 : ¬ ((0 ≤ x ∧ x < T.v) ∧ 0 ≤ v ∧ v ≤ 4) → ∀ z i', KP i i' → i' 0 = 1 → Q z i') (hq : (0 ≤ x ∧ x < T.v) ∧ 0 ≤ v ∧ v ≤ 4 → ∀ i', KP i i' → i' 0 = 0 → Q (eI (halfS τ T x.toNat v)) i') : w_LongTrainModel_half i (eF σ) (eI x) (eI v) Q := by
  have n18 := K.n18 O
  have hvge := tn_ge K.vs1
  have hkc := O.kc
  have hhc := O.hc
  have hU := O.u
  unfold w_LongTrainModel_half
  rw [eF_ap, R.v]
  have bad : ¬ ((0 ≤ x ∧ x < T.v) ∧ 0 ≤ v ∧ v ≤ 4) → j_LongTrainModel_half_28 i (eF σ) (eI x) (eI v) Q := fun hn => by
    unfold j_LongTrainModel_half_28 j_LongTrainModel_half_33
    refine M_throwsIf1 ?_
    (first | refine z1T ?_ | refine z1N ?_)
    exact h0 hn _ _ KP.u0 upd_s
  (try simp only [eI_lit, eI_neg, eI_add, eI_sub, eI_mul, eF_ap, upd_eF])
  refine M_isIn hx (by (first | exact B31_s (by omega) (by omega) | exact B31_of _ | (constructor <;> omega))) (by (first | exact B31_s (by omega) (by omega) | exact B31_of _ | (constructor <;> omega))) (fun a1 a2 => ?_) (fun a => by (first | refine z0T ?_ | refine z0N ?_); exact bad (by omega))
  (first | refine z1T ?_ | refine z1N ?_)
  refine M_isIn hv (by (first | exact B31_s (by omega) (by omega) | exact B31_of _ | (constructor <;> omega))) (by (first | exact B31_s (by omega) (by omega) | exact B31_of _ | (constructor <;> omega))) (fun b1 b2 => ?_) (fun a => by (first | refine z0T ?_ | refine z0N ?_); exact bad (by omega))
  (first | refine z1T ?_ | refine z1N ?_)
  unfold j_LongTrainModel_half_33
  refine M_throwsIf0 ?_
  (first | refine z0T ?_ | refine z0N ?_)
  have ex : x = ((x.toNat : Nat) : Int) := by omega
  have hq2 := hq (by omega) (upd i 0 0) KP.u0 upd_s
  generalize hX : x.toNat = X at *
  subst ex
  have hXv : X < T.v := by omega
  have htm := tn_mono (f := T.vs) hXv
  have hvk := K.vk X hXv
  have hvu := K.vu X hXv
  unfold halfS at hq2
  have e1 : (537 + 22 * (X : Int)).toNat = 537 + 22 * X := by omega
  have e2 : (537 + 22 * (X : Int) + 1).toNat = 537 + 22 * X + 1 := by omega
  (try simp only [eI_lit, eI_neg, eI_add, eI_sub, eI_mul, eF_ap, upd_eF])
  refine q_le (by (first | exact B31_s (by omega) (by omega) | exact B31_of _ | (constructor <;> omega))) hv (fun c2 => ?_) (fun c2 => ?_)
  · rw [if_neg (by omega), if_neg (by omega)] at hq2
    refine q_ne hv (by (first | exact B31_s (by omega) (by omega) | exact B31_of _ | (constructor <;> omega))) (fun n2 => ?_) (fun n2 => ?_)
    · rw [if_neg n2] at hq2
      refine q_ne hv (by (first | exact B31_s (by omega) (by omega) | exact B31_of _ | (constructor <;> omega))) (fun n3 => ?_) (fun n3 => ?_)
      · rw [if_neg n3] at hq2
        refine And.intro (eI_in (by omega) (by omega) (by omega)) ?_; (try simp (disch := omega) only [eI_cl, Int.toNat_natCast])
        rw [e2, R.vu X hXv]
        refine lg_LongTrainModel_half_146 (G := Nat) (fun g x4 x5 x6 => g ≤ T.vs X ∧ x4 = eI (sm (dg τ (T.vk X) (T.vu X + 1)) g) ∧ x5 = eI (fo τ (T.vk X) (T.vu X + 1) g) ∧ x6 = eI g) (fun g => T.vs X - g) ?_ 0 ⟨by omega, rfl, by rw [fo_0]; congr 1; omega, rfl⟩
        rintro kr g x4 x5 x6 ⟨hg, rfl, rfl, rfl⟩ hs
        unfold b_LongTrainModel_half_146
        (try simp only [eI_lit, eI_neg, eI_add, eI_sub, eI_mul, eF_ap, upd_eF])
        refine And.intro (eI_in (by omega) (by omega) (by omega)) ?_; (try simp (disch := omega) only [eI_cl, Int.toNat_natCast])
        rw [e1, R.vs X hXv]
        refine q_le (by (first | exact B31_s (by omega) (by omega) | exact B31_of _ | (constructor <;> omega))) (by (first | exact B31_s (by omega) (by omega) | exact B31_of _ | (constructor <;> omega))) (fun h => ?_) (fun h => ?_)
        · have eg : g = T.vs X := by omega
          subst eg; exact hq2
        · have hkg := hvk g (by omega)
          have e3 : (537 + 22 * (X : Int) + 2 + (g : Int)).toNat = 537 + 22 * X + 2 + g := by omega
          have hl := sm_lg O (k := T.vk X) (n := T.vs X) hvk (i := g) (by omega)
          refine And.intro (eI_in (by omega) (by omega) (by omega)) ?_; (try simp (disch := omega) only [eI_cl, Int.toNat_natCast])
          rw [e3, R.vk X hXv g (by omega)]
          refine M_dragOf O e hkg.1 hkg.2 (by unfold fo; omega) (by unfold fo; omega) ?_
          refine And.intro (eI_in (by omega) (by omega) (by omega)) ?_
          refine M_longOf hkg.1 (by omega) ?_
          rw [LG_c e hkg.1 (by omega)]
          (try simp only [eI_lit, eI_neg, eI_add, eI_sub, eI_mul, eF_ap, upd_eF])
          refine hs (g + 1) _ _ _ (by omega) ⟨by omega, rfl, by rw [fo_s], by congr 1⟩
      · rw [if_pos n3] at hq2
        unfold hbh at hq2
        refine lg_LongTrainModel_half_91 (G := Nat) (fun g x4 => (g : Int) ≤ τ 1 ∧ x4 = eI g ∧ ∀ m : Nat, m < g → ¬ T.vu X < AT τ m) (fun g => (τ 1).toNat - g) ?_ 0 ⟨by omega, rfl, fun m hm => absurd hm (Nat.not_lt_zero _)⟩
        rintro kr g x4 ⟨hg, rfl, hnb⟩ hs
        unfold b_LongTrainModel_half_91
        rw [eF_ap, e 1 (by omega)]
        refine q_le (by (first | exact B31_s (by omega) (by omega) | exact B31_of _ | (constructor <;> omega))) (by (first | exact B31_s (by omega) (by omega) | exact B31_of _ | (constructor <;> omega))) (fun h => ?_) (fun h => ?_)
        · have e3 := lf_eq (P := fun i : Nat => T.vu X < AT τ i) (n := (τ 1).toNat) (m := (τ 1).toNat) (Nat.le_refl _) (fun j hj => hnb j (by omega)) (fun h => absurd h (Nat.lt_irrefl _))
          rw [e3, if_neg (Nat.lt_irrefl _)] at hq2
          exact hq2
        · have hat := O.at_ g (by omega)
          refine M_haltAt (by omega) (by omega) ?_
          rw [AT_c e (by omega) (by omega)]
          (try simp only [eI_lit, eI_neg, eI_add, eI_sub, eI_mul, eF_ap, upd_eF]); refine And.intro (eI_in (by omega) (by omega) (by omega)) ?_; (try simp (disch := omega) only [eI_cl, Int.toNat_natCast])
          rw [e2, R.vu X hXv]
          refine q_le (by (first | exact B31_s (by omega) (by omega) | exact B31_of _ | (constructor <;> omega))) (by (first | exact B31_s (by omega) (by omega) | exact B31_of _ | (constructor <;> omega))) (fun h2 => ?_) (fun h2 => ?_)
          · refine hs (g + 1) _ (by omega) ⟨by omega, by congr 1, fun m hm => ?_⟩
            by_cases hmg : m = g
            · subst hmg; omega
            · exact hnb m (by omega)
          · have e3 := lf_eq (P := fun i : Nat => T.vu X < AT τ i) (n := (τ 1).toNat) (m := g) (by omega) hnb (fun _ => h2)
            rw [e3, if_pos (by omega)] at hq2
            exact hq2
    · rw [if_pos n2] at hq2
      refine And.intro (eI_in (by omega) (by omega) (by omega)) ?_; (try simp (disch := omega) only [eI_cl, Int.toNat_natCast])
      rw [e1, R.vs X hXv]
      have e4 : (537 + 22 * (X : Int) + 2) = ((537 + 22 * X + 2 : Nat) : Int) := by omega
      rw [e4]
      exact M_unitsOf (f := 537 + 22 * X + 2) (n := T.vs X) (k := T.vk X) O e (by omega) hvk (R.vk X hXv) hq2
  · refine And.intro (eI_in (by omega) (by omega) (by omega)) ?_; (try simp (disch := omega) only [eI_cl, Int.toNat_natCast])
    have hv2 : v = 0 ∨ v = 1 := by omega
    rcases hv2 with rfl | rfl
    · rw [if_pos rfl] at hq2
      have e3 : (537 + 22 * (X : Int) + 0).toNat = 537 + 22 * X := by omega
      rw [e3, R.vs X hXv]; exact hq2
    · rw [if_neg (by omega), if_pos rfl] at hq2
      rw [e2, R.vu X hXv]; exact hq2
abbrev CT (τ : Nat → Int) (T : TS) (it i K L W S E P H ih hst hsz hun hk : F32) : Prop :=
  (RowR τ (TX τ T) T.hd (hb τ T.hd) i K L W S E P H) ∧
  (it 2 = eI T.run) ∧
  (ih 5 = eI T.v) ∧
  (ih 1 = eI (tn T.vs T.v)) ∧
  (∀ j, j < T.v → hsz j = eI (T.vs j)) ∧
  (∀ j, j < T.v → hun j = eI (T.vu j)) ∧
  (∀ j, j < T.v → hst j = eI (tn T.vs j)) ∧
  (∀ j, j < T.v → ∀ i, i < T.vs j → hk (tn T.vs j + i) = eI (T.vk j i))
theorem CT.row {τ : Nat → Int} {T : TS} {it i K L W S E P H ih hst hsz hun hk : F32} (h : CT τ T it i K L W S E P H ih hst hsz hun hk) : RowR τ (TX τ T) T.hd (hb τ T.hd) i K L W S E P H := h.1
theorem CT.run {τ : Nat → Int} {T : TS} {it i K L W S E P H ih hst hsz hun hk : F32} (h : CT τ T it i K L W S E P H ih hst hsz hun hk) : it 2 = eI T.run := h.2.1
theorem CT.v {τ : Nat → Int} {T : TS} {it i K L W S E P H ih hst hsz hun hk : F32} (h : CT τ T it i K L W S E P H ih hst hsz hun hk) : ih 5 = eI T.v := h.2.2.1
theorem CT.st {τ : Nat → Int} {T : TS} {it i K L W S E P H ih hst hsz hun hk : F32} (h : CT τ T it i K L W S E P H ih hst hsz hun hk) : ih 1 = eI (tn T.vs T.v) := h.2.2.2.1
theorem CT.sz {τ : Nat → Int} {T : TS} {it i K L W S E P H ih hst hsz hun hk : F32} (h : CT τ T it i K L W S E P H ih hst hsz hun hk) : ∀ j, j < T.v → hsz j = eI (T.vs j) := h.2.2.2.2.1
theorem CT.un {τ : Nat → Int} {T : TS} {it i K L W S E P H ih hst hsz hun hk : F32} (h : CT τ T it i K L W S E P H ih hst hsz hun hk) : ∀ j, j < T.v → hun j = eI (T.vu j) := h.2.2.2.2.2.1
theorem CT.sa {τ : Nat → Int} {T : TS} {it i K L W S E P H ih hst hsz hun hk : F32} (h : CT τ T it i K L W S E P H ih hst hsz hun hk) : ∀ j, j < T.v → hst j = eI (tn T.vs j) := h.2.2.2.2.2.2.1
theorem CT.kd {τ : Nat → Int} {T : TS} {it i K L W S E P H ih hst hsz hun hk : F32} (h : CT τ T it i K L W S E P H ih hst hsz hun hk) : ∀ j, j < T.v → ∀ i, i < T.vs j → hk (tn T.vs j + i) = eI (T.vk j i) := h.2.2.2.2.2.2.2
theorem C_train {τ : Nat → Int} (O : LOk τ) {T : TS} (K : TOk τ T) {il gl : F32} (I : LnI τ il) (G : LnG τ gl) {it i kk L W S E P H ih hst hsz hun hk b : F32} (C : CT τ T it i kk L W S E P H ih hst hsz hun hk) {n : Int32} {Q : Int32 → F32 → Prop} (hq : ∀ b', Q (trainS τ T n) b') : w_LongTrain_train it i H il ih L gl W P b n Q := by
  have n18 := K.n18 O
  unfold w_LongTrain_train
  have et : i 9 = eI (sm (fun j => LG τ (T.k j)) T.n) := C.row.tot
  have es : i 8 = eI T.n := C.row.sz
  rw [C.row.hd, C.run, C.v, et, es, I.eng]
  have hn : (TX τ T).n ≤ 20 := by show T.n ≤ 20; omega
  unfold trainS at hq
  by_cases c0 : n = 0
  · simp only [if_pos c0] at hq; exact ⟨fun _ => hq b, fun h => absurd c0 h⟩
  refine ⟨fun h => absurd h c0, fun _ => ?_⟩
  by_cases c1 : n = 1
  · simp only [if_neg c0, if_pos c1] at hq; exact ⟨fun _ => hq b, fun h => absurd c1 h⟩
  refine ⟨fun h => absurd h c1, fun _ => ?_⟩
  by_cases c2 : n = 2
  · simp only [if_neg c0, if_neg c1, if_pos c2] at hq; exact ⟨fun _ => hq b, fun h => absurd c2 h⟩
  refine ⟨fun h => absurd h c2, fun _ => ?_⟩
  by_cases c3 : n = 3
  · simp only [if_neg c0, if_neg c1, if_neg c2, if_pos c3] at hq
    exact ⟨fun _ => by (try simp only [eI_lit, eI_neg, eI_add, eI_sub, eI_mul, eF_ap, upd_eF]); exact hq b, fun h => absurd c3 h⟩
  refine ⟨fun h => absurd h c3, fun _ => ?_⟩
  by_cases c4 : n = 4
  · simp only [if_neg c0, if_neg c1, if_neg c2, if_neg c3, if_pos c4] at hq
    exact ⟨fun _ => R_weightOfAll C.row hn (by (try simp only [eI_lit, eI_neg, eI_add, eI_sub, eI_mul, eF_ap, upd_eF]); exact hq b), fun h => absurd c4 h⟩
  refine ⟨fun h => absurd h c4, fun _ => ?_⟩
  by_cases c5 : n = 5
  · simp only [if_neg c0, if_neg c1, if_neg c2, if_neg c3, if_neg c4, if_pos c5] at hq
    exact ⟨fun _ => R_measure O C.row I G K.k hn K.hd0 K.hd1 (fun b' _ => hq b'), fun h => absurd c5 h⟩
  refine ⟨fun h => absurd h c5, fun _ => ?_⟩
  by_cases c6 : n = 6
  · simp only [if_neg c0, if_neg c1, if_neg c2, if_neg c3, if_neg c4, if_neg c5, if_pos c6] at hq
    refine ⟨fun _ => R_helperCount C.row hn ?_, fun h => absurd c6 h⟩
    show Q (eI (sm (fun i => cS T.hp i) T.n)) b
    rw [sm_cS K.hpa]; exact hq b
  refine ⟨fun h => absurd h c6, fun _ => ?_⟩
  simp only [if_neg c0, if_neg c1, if_neg c2, if_neg c3, if_neg c4, if_neg c5, if_neg c6] at hq
  exact br_if (A := fun z => Q z b) (hq b)
theorem C_wagon {τ : Nat → Int} (O : LOk τ) {T : TS} (K : TOk τ T) {il gl : F32} (I : LnI τ il) (G : LnG τ gl) {it i kk L W S E P H ih hst hsz hun hk b : F32} (C : CT τ T it i kk L W S E P H ih hst hsz hun hk) {x v : Int} (hx : B31 x) (hv : B31 v) {Q : Int32 → F32 → Prop} {X : Prop} (h0 : ¬ ((0 ≤ x ∧ x < T.n) ∧ 0 ≤ v ∧ v ≤ 4) → X) (hq : (0 ≤ x ∧ x < T.n) ∧ 0 ≤ v ∧ v ≤ 4 → ∀ b', Q (eI (wagS τ T x.toNat v)) b') : w_LongTrain_wagon i kk E L il W gl P b (eI x) (eI v) Q X := by
  have n18 := K.n18 O
  have hU := O.u
  have hn : (TX τ T).n ≤ 20 := by show T.n ≤ 20; omega
  unfold w_LongTrain_wagon
  have es : i 8 = eI T.n := C.row.sz
  rw [es]
  (try simp only [eI_lit, eI_neg, eI_add, eI_sub, eI_mul, eF_ap, upd_eF])
  refine q_lt hx (by (first | exact B31_s (by omega) (by omega) | exact B31_of _ | (constructor <;> omega))) (fun h => h0 (by omega)) (fun a1 => ?_)
  refine q_le (by (first | exact B31_s (by omega) (by omega) | exact B31_of _ | (constructor <;> omega))) hx (fun h => h0 (by omega)) (fun a2 => ?_)
  refine q_lt hv (by (first | exact B31_s (by omega) (by omega) | exact B31_of _ | (constructor <;> omega))) (fun h => h0 (by omega)) (fun b1 => ?_)
  refine q_le hv (by (first | exact B31_s (by omega) (by omega) | exact B31_of _ | (constructor <;> omega))) (fun b2 => ?_) (fun h => h0 (by omega))
  have ex : x = ((x.toNat : Nat) : Int) := by omega
  have hq2 := hq (by omega)
  generalize hX : x.toNat = X at *
  subst ex
  have hXn : X < T.n := by omega
  unfold wagS at hq2
  refine q_eq hv (by (first | exact B31_s (by omega) (by omega) | exact B31_of _ | (constructor <;> omega))) (fun n0 => ?_) (fun n0 => ?_)
  · simp only [if_pos n0] at hq2
    refine And.intro (eI_in (by omega) (by omega) (by omega)) ?_; (try simp (disch := omega) only [eI_cl, Int.toNat_natCast])
    have : kk X = eI (T.k X) := C.row.k X hXn
    rw [this]; exact hq2 b
  simp only [if_neg n0] at hq2
  refine q_eq hv (by (first | exact B31_s (by omega) (by omega) | exact B31_of _ | (constructor <;> omega))) (fun n1 => ?_) (fun n1 => ?_)
  · simp only [if_pos n1] at hq2
    exact R_foremostUnit C.row hn (by show X ≤ T.n; omega) (hq2 b)
  simp only [if_neg n1] at hq2
  refine q_eq hv (by (first | exact B31_s (by omega) (by omega) | exact B31_of _ | (constructor <;> omega))) (fun n2 => ?_) (fun n2 => ?_)
  · simp only [if_pos n2] at hq2
    unfold w_Row_borneBy
    refine R_measure O C.row I G K.k hn K.hd0 K.hd1 (fun b' hb => ?_)
    refine And.intro (eI_in (by omega) (by omega) (by omega)) ?_; (try simp (disch := omega) only [eI_cl, Int.toNat_natCast])
    rw [hb X hXn]; exact hq2 b'
  simp only [if_neg n2] at hq2
  refine q_eq hv (by (first | exact B31_s (by omega) (by omega) | exact B31_of _ | (constructor <;> omega))) (fun n3 => ?_) (fun n3 => ?_)
  · simp only [if_pos n3] at hq2
    refine And.intro (eI_in (by omega) (by omega) (by omega)) ?_; (try simp (disch := omega) only [eI_cl, Int.toNat_natCast])
    have : E X = eI (T.w X) := C.row.e X hXn
    rw [this]; exact hq2 b
  simp only [if_neg n3] at hq2
  refine And.intro (eI_in (by omega) (by omega) (by omega)) ?_; (try simp (disch := omega) only [eI_cl, Int.toNat_natCast])
  have hl2 := sm_lg O K.k (i := X) (by omega)
  have h4 := K.hd4 O
  have h5 := K.hd0
  have h6 := K.hd1
  refine R_foremostUnit C.row hn (by show X ≤ T.n; omega) ?_
  have : W X = eI (WT τ (T.k X)) := C.row.w X hXn
  rw [this]
  refine L_dragOf I G (by show -100000 ≤ fo τ T.k T.hd X; unfold fo; omega) (by show fo τ T.k T.hd X ≤ 100000; unfold fo; omega) (by omega) (by omega) ?_
  show Q (eI (WT τ (T.k X) * (GC τ (fo τ T.k T.hd X) + τ 6))) b
  rw [GC_GR (by unfold fo; omega)]
  exact hq2 b
theorem C_half {τ : Nat → Int} (O : LOk τ) {T : TS} (K : TOk τ T) {il gl hl d : F32} (I : LnI τ il) (G : LnG τ gl) (HH : LnH τ hl) (D : LnK τ d) {it i kk L W S E P H ih hst hsz hun hk : F32} (C : CT τ T it i kk L W S E P H ih hst hsz hun hk) {x v : Int} (hx : B31 x) (hv : B31 v) {Q : Int32 → Prop} {X : Prop} (h0 : ¬ ((0 ≤ x ∧ x < T.v) ∧ 0 ≤ v ∧ v ≤ 4) → X) (hq : (0 ≤ x ∧ x < T.v) ∧ 0 ≤ v ∧ v ≤ 4 → Q (eI (halfS τ T x.toNat v))) : w_LongTrain_half ih hsz hun il hk hst d gl hl (eI x) (eI v) Q X := by
  have n18 := K.n18 O
  have hvge := tn_ge K.vs1
  have hkc := O.kc
  have hhc := O.hc
  have hU := O.u
  unfold w_LongTrain_half
  rw [C.v]
  (try simp only [eI_lit, eI_neg, eI_add, eI_sub, eI_mul, eF_ap, upd_eF])
  refine q_lt hx (by (first | exact B31_s (by omega) (by omega) | exact B31_of _ | (constructor <;> omega))) (fun h => h0 (by omega)) (fun a1 => ?_)
  refine q_le (by (first | exact B31_s (by omega) (by omega) | exact B31_of _ | (constructor <;> omega))) hx (fun h => h0 (by omega)) (fun a2 => ?_)
  refine q_lt hv (by (first | exact B31_s (by omega) (by omega) | exact B31_of _ | (constructor <;> omega))) (fun h => h0 (by omega)) (fun b1 => ?_)
  refine q_le hv (by (first | exact B31_s (by omega) (by omega) | exact B31_of _ | (constructor <;> omega))) (fun b2 => ?_) (fun h => h0 (by omega))
  have ex : x = ((x.toNat : Nat) : Int) := by omega
  have hq2 := hq (by omega)
  generalize hX : x.toNat = X at *
  subst ex
  have hXv : X < T.v := by omega
  have htm := tn_mono (f := T.vs) hXv
  have hvk := K.vk X hXv
  have hvu := K.vu X hXv
  unfold halfS at hq2
  refine q_eq hv (by (first | exact B31_s (by omega) (by omega) | exact B31_of _ | (constructor <;> omega))) (fun n0 => ?_) (fun n0 => ?_)
  · rw [if_pos n0] at hq2
    refine And.intro (eI_in (by omega) (by omega) (by omega)) ?_; (try simp (disch := omega) only [eI_cl, Int.toNat_natCast]); rw [C.sz X hXv]; exact hq2
  rw [if_neg n0] at hq2
  refine q_eq hv (by (first | exact B31_s (by omega) (by omega) | exact B31_of _ | (constructor <;> omega))) (fun n1 => ?_) (fun n1 => ?_)
  · rw [if_pos n1] at hq2
    refine And.intro (eI_in (by omega) (by omega) (by omega)) ?_; (try simp (disch := omega) only [eI_cl, Int.toNat_natCast]); rw [C.un X hXv]; exact hq2
  rw [if_neg n1] at hq2
  refine q_eq hv (by (first | exact B31_s (by omega) (by omega) | exact B31_of _ | (constructor <;> omega))) (fun n2 => ?_) (fun n2 => ?_)
  · rw [if_pos n2] at hq2
    unfold w_Halves_unitsOf
    refine lg_Halves_unitsOf_5 (G := Nat) (fun g x3 x4 => g ≤ T.vs X ∧ x3 = eI (sm (fun j => LG τ (T.vk X j)) g) ∧ x4 = eI g) (fun g => T.vs X - g) ?_ 0 ⟨by omega, rfl, rfl⟩
    rintro kr g x3 x4 ⟨hg, rfl, rfl⟩ hs
    unfold b_Halves_unitsOf_5
    refine And.intro (eI_in (by omega) (by omega) (by omega)) ?_; (try simp (disch := omega) only [eI_cl, Int.toNat_natCast])
    rw [C.sz X hXv]
    refine q_le (by (first | exact B31_s (by omega) (by omega) | exact B31_of _ | (constructor <;> omega))) (by (first | exact B31_s (by omega) (by omega) | exact B31_of _ | (constructor <;> omega))) (fun h => ?_) (fun h => ?_)
    · have eg : g = T.vs X := by omega
      subst eg; exact hq2
    · have hkg := hvk g (by omega)
      refine And.intro (eI_in (by omega) (by omega) (by omega)) ?_
      rw [C.sa X hXv]
      (try simp only [eI_lit, eI_neg, eI_add, eI_sub, eI_mul, eF_ap, upd_eF]); refine And.intro (eI_in (by omega) (by omega) (by omega)) ?_; (try simp (disch := omega) only [eI_cl, Int.toNat_natCast])
      have e3 : ((tn T.vs X : Int) + (g : Int)).toNat = tn T.vs X + g := by omega
      rw [e3, C.kd X hXv g (by omega)]
      refine L_longOf D hkg.1 hkg.2 (by omega) ?_
      (try simp only [eI_lit, eI_neg, eI_add, eI_sub, eI_mul, eF_ap, upd_eF])
      exact hs (g + 1) _ _ (by omega) ⟨by omega, rfl, by congr 1⟩
  rw [if_neg n2] at hq2
  refine q_eq hv (by (first | exact B31_s (by omega) (by omega) | exact B31_of _ | (constructor <;> omega))) (fun n3 => ?_) (fun n3 => ?_)
  · rw [if_pos n3] at hq2
    refine And.intro (eI_in (by omega) (by omega) (by omega)) ?_; (try simp (disch := omega) only [eI_cl, Int.toNat_natCast])
    rw [C.un X hXv]
    unfold hbh at hq2
    unfold w_Line_haltBehind
    refine lg_Line_haltBehind_2 (G := Nat) (fun g x4 => (g : Int) ≤ τ 1 ∧ x4 = eI g ∧ ∀ m : Nat, m < g → ¬ T.vu X < AT τ m) (fun g => (τ 1).toNat - g) ?_ 0 ⟨by omega, rfl, fun m hm => absurd hm (Nat.not_lt_zero _)⟩
    rintro kr g x4 ⟨hg, rfl, hnb⟩ hs
    unfold b_Line_haltBehind_2
    rw [I.hc]
    refine q_le (by (first | exact B31_s (by omega) (by omega) | exact B31_of _ | (constructor <;> omega))) (by (first | exact B31_s (by omega) (by omega) | exact B31_of _ | (constructor <;> omega))) (fun h => ?_) (fun h => ?_)
    · have e3 := lf_eq (P := fun i : Nat => T.vu X < AT τ i) (n := (τ 1).toNat) (m := (τ 1).toNat) (Nat.le_refl _) (fun j hj => hnb j (by omega)) (fun h => absurd h (Nat.lt_irrefl _))
      rw [e3, if_neg (Nat.lt_irrefl _)] at hq2
      exact hq2
    · have hat := O.at_ g (by omega)
      refine L_haltAt HH (by omega) (by omega) ?_
      refine q_le (by (first | exact B31_s (by omega) (by omega) | exact B31_of _ | (constructor <;> omega))) (by (first | exact B31_s (by omega) (by omega) | exact B31_of _ | (constructor <;> omega))) (fun h2 => ?_) (fun h2 => ?_)
      · (try simp only [eI_lit, eI_neg, eI_add, eI_sub, eI_mul, eF_ap, upd_eF])
        refine hs (g + 1) _ (by omega) ⟨by omega, by congr 1, fun m hm => ?_⟩
        by_cases hmg : m = g
        · subst hmg; omega
        · exact hnb m (by omega)
      · have e3 := lf_eq (P := fun i : Nat => T.vu X < AT τ i) (n := (τ 1).toNat) (m := g) (by omega) hnb (fun _ => h2)
        rw [e3, if_pos (by omega)] at hq2
        exact hq2
  rw [if_neg n3] at hq2
  unfold w_Halves_dragOf
  refine And.intro (eI_in (by omega) (by omega) (by omega)) ?_; (try simp (disch := omega) only [eI_cl, Int.toNat_natCast])
  rw [C.un X hXv]
  refine lg_Halves_dragOf_13 (G := Nat) (fun g x4 x5 x6 => g ≤ T.vs X ∧ x4 = eI (sm (dg τ (T.vk X) (T.vu X + 1)) g) ∧ x5 = eI (fo τ (T.vk X) (T.vu X + 1) g) ∧ x6 = eI g) (fun g => T.vs X - g) ?_ 0 ⟨by omega, rfl, by rw [fo_0]; congr 1; omega, rfl⟩
  rintro kr g x4 x5 x6 ⟨hg, rfl, rfl, rfl⟩ hs
  unfold b_Halves_dragOf_13
  refine And.intro (eI_in (by omega) (by omega) (by omega)) ?_; (try simp (disch := omega) only [eI_cl, Int.toNat_natCast])
  rw [C.sz X hXv]
  refine q_le (by (first | exact B31_s (by omega) (by omega) | exact B31_of _ | (constructor <;> omega))) (by (first | exact B31_s (by omega) (by omega) | exact B31_of _ | (constructor <;> omega))) (fun h => ?_) (fun h => ?_)
  · have eg : g = T.vs X := by omega
    subst eg; exact hq2
  · have hkg := hvk g (by omega)
    have hl := sm_lg O (k := T.vk X) (n := T.vs X) hvk (i := g) (by omega)
    refine And.intro (eI_in (by omega) (by omega) (by omega)) ?_
    rw [C.sa X hXv]
    (try simp only [eI_lit, eI_neg, eI_add, eI_sub, eI_mul, eF_ap, upd_eF]); refine And.intro (eI_in (by omega) (by omega) (by omega)) ?_; (try simp (disch := omega) only [eI_cl, Int.toNat_natCast])
    have e3 : ((tn T.vs X : Int) + (g : Int)).toNat = tn T.vs X + g := by omega
    rw [e3, C.kd X hXv g (by omega)]
    refine L_weightOf D hkg.1 hkg.2 (by omega) ?_
    refine L_dragOf I G (by unfold fo; omega) (by unfold fo; omega) (by omega) (by omega) ?_
    refine L_longOf D hkg.1 hkg.2 (by omega) ?_
    rw [GC_GR (by unfold fo; omega)]
    (try simp only [eI_lit, eI_neg, eI_add, eI_sub, eI_mul, eF_ap, upd_eF])
    exact hs (g + 1) _ _ _ (by omega) ⟨by omega, rfl, by rw [fo_s], by congr 1⟩
