/-! move, moves, go of the reference -/
theorem M_haltOf {τ σ : Nat → Int} (O : LOk τ) (e : Eqv τ σ) {g : Int} (h0 : 0 ≤ g) (h1 : g < 400) {Q : Int32 → Prop} (hq : Q (eI (if 0 ≤ adN τ (hb τ g) (g + 1) then (hb τ g : Int) else -1))) : w_LongTrainModel_haltOf (eF σ) (eI (g + 1)) Q := by
  have hhc := O.hc
  have hu := O.u
  have hkc := O.kc
  have hbl := hb_le O g
  unfold w_LongTrainModel_haltOf
  refine lg_LongTrainModel_haltOf_2 (G := Nat) (fun m x => (m : Int) ≤ τ 1 ∧ x = eI m ∧ ∀ q : Nat, q < m → ¬ (AT τ q = g + 1 ∧ 0 ≤ AD τ q)) (fun m => (τ 1).toNat - m) ?_ 0 ⟨by omega, rfl, fun m hm => absurd hm (Nat.not_lt_zero _)⟩
  rintro kr m x ⟨hm, rfl, hnb⟩ hs
  unfold b_LongTrainModel_haltOf_2
  rw [eF_ap, e 1 (by omega)]
  (try simp only [eI_lit, eI_neg, eI_add, eI_sub, eI_mul, eF_ap, upd_eF])
  refine q_le (by (first | exact B31_s (by omega) (by omega) | exact B31_of _ | (constructor <;> omega))) (by (first | exact B31_s (by omega) (by omega) | exact B31_of _ | (constructor <;> omega))) (fun h => ?_) (fun h => ?_)
  · have : ¬ 0 ≤ adN τ (hb τ g) (g + 1) := by
      unfold adN
      split
      · rename_i hc
        intro had
        exact hnb (hb τ g) (by omega) ⟨hc.2, had⟩
      · omega
    rw [if_neg this] at hq
    exact hq
  · have hat := O.at_ m (by omega)
    have had := O.ad m (by omega)
    have next : ¬ (AT τ m = g + 1 ∧ 0 ≤ AD τ m) → kr (eI (m + 1)) := fun hn => by
      refine hs (m + 1) _ (by omega) ⟨by omega, by congr 1, fun q hq => ?_⟩
      by_cases hqm : q = m
      · subst hqm; exact hn
      · exact hnb q (by omega)
    refine M_haltAt (by omega) (by omega) ?_
    rw [AT_c e (by omega) (by omega)]
    refine q_ne (by (first | exact B31_s (by omega) (by omega) | exact B31_of _ | (constructor <;> omega))) (by (first | exact B31_s (by omega) (by omega) | exact B31_of _ | (constructor <;> omega))) (fun h2 => next (by omega)) (fun h2 => ?_)
    refine q_le (by (first | exact B31_s (by omega) (by omega) | exact B31_of _ | (constructor <;> omega))) (by (first | exact B31_s (by omega) (by omega) | exact B31_of _ | (constructor <;> omega))) (fun h3 => by omega) (fun h3 => ?_)
    refine M_addsOf (by omega) (by omega) ?_
    rw [AD_c e (by omega) (by omega)]
    refine q_lt (by (first | exact B31_s (by omega) (by omega) | exact B31_of _ | (constructor <;> omega))) (by (first | exact B31_s (by omega) (by omega) | exact B31_of _ | (constructor <;> omega))) (fun h4 => next (by omega)) (fun h4 => ?_)
    have hsp := hb_sp O g (k := m) (by omega)
    have em : m = hb τ g := by
      rcases Nat.lt_trichotomy m (hb τ g) with hlt | heq | hgt
      · have := hsp.mp hlt; omega
      · exact heq
      · have h5 := O.asc (hb τ g) m hgt (by omega)
        have h6 := hb_sp O g (k := hb τ g) (by omega)
        omega
    have ead : adN τ (hb τ g) (g + 1) = AD τ m := by
      unfold adN
      rw [← em, if_pos ⟨by omega, h2⟩]
    rw [ead, if_pos h4, ← em] at hq
    exact hq
theorem M_arr {τ σ : Nat → Int} (O : LOk τ) (e : Eqv τ σ) {T : TS} (R : RT σ T) {g : Int} (hg0 : 0 ≤ g) (hg1 : g < 400) (hn : T.n < 20) (hp4 : T.hp.length ≤ 4) (hhd : T.hd = g + 1) (hcm : ∀ k : Nat, (k : Int) < τ 1 → g < AT τ k → bitN (eI (σ 535)) k = false) {i w f b : F32} {Q : Int32 → F32 → F32 → F32 → F32 → F32 → Prop} (hq : ∀ σ', Eqv τ σ' → (∀ q, 977 ≤ q → σ' q = σ q) → RT σ' (if 0 ≤ adN τ (hb τ g) (g + 1) then appT T (adN τ (hb τ g) (g + 1)) else T) → Q 0 i (eF σ') w f b) : j_LongTrainModel_move_236 i (eF σ) w f b (eI (g + 1)) Q := by
  have hhc := O.hc
  have hkc := O.kc
  have hbl := hb_le O g
  unfold j_LongTrainModel_move_236
  refine M_haltOf O e hg0 hg1 ?_
  by_cases had : 0 ≤ adN τ (hb τ g) (g + 1)
  · have hc : (hb τ g : Int) < τ 1 ∧ AT τ (hb τ g) = g + 1 := by
      unfold adN at had
      split at had
      · rename_i hc; exact hc
      · omega
    have ead : adN τ (hb τ g) (g + 1) = AD τ (hb τ g) := by unfold adN; rw [if_pos hc]
    rw [if_pos had]
    rw [if_pos had, ead] at hq
    generalize hN : hb τ g = N at *
    refine q_lt (b := 0) (by (first | exact B31_s (by omega) (by omega) | exact B31_of _ | (constructor <;> omega))) (by (first | exact B31_s (by omega) (by omega) | exact B31_of _ | (constructor <;> omega))) (fun h => by omega) (fun _ => ?_)
    rw [eF_ap, R.n]
    refine q_eq (b := 20) (by (first | exact B31_s (by omega) (by omega) | exact B31_of _ | (constructor <;> omega))) (by (first | exact B31_s (by omega) (by omega) | exact B31_of _ | (constructor <;> omega))) (fun h => by omega) (fun _ => ?_)
    have hbit := hcm N hc.1 (by omega)
    unfold w_LongTrainModel_has
    refine ⟨fun _ => ?_, fun h => ?_⟩
    · (first | refine z0T ?_ | refine z0N ?_)
      rw [eF_ap]
      have hcc : (eI (σ 535) ||| ((1 : Int32) <<< (eI (N : Int) &&& 31))) = eI (eI (σ 535) ||| ((1 : Int32) <<< (eI (N : Int) &&& 31))).toInt := (eI_of _).symm
      rw [hcc]
      generalize hC : (eI (σ 535) ||| ((1 : Int32) <<< (eI (N : Int) &&& 31))).toInt = c
      rw [upd_eF]
      refine M_addsOf (by omega) (by omega) ?_
      have e1 : Eqv τ (updI σ 535 c) := e.u (by omega)
      rw [AD_c e1 (by omega) (by omega)]
      have u1 : updI σ 535 c 484 = T.n := by rw [updI_n _ (by omega)]; exact R.n
      rw [eF_ap, u1]
      have i1 : (495 + (T.n : Int)).toNat = 495 + T.n := by omega
      (try simp only [eI_lit, eI_neg, eI_add, eI_sub, eI_mul, eF_ap, upd_eF]); refine And.intro (eI_in (by omega) (by omega) (by omega)) ?_
      (try simp (disch := omega) only [eI_cl, Int.toNat_natCast])
      rw [i1]
      (try simp only [eI_lit, eI_neg, eI_add, eI_sub, eI_mul, eF_ap, upd_eF])
      have u2 : updI (updI σ 535 c) (495 + T.n) (AD τ N) 484 = T.n := by rw [updI_n _ (by omega)]; exact u1
      rw [u2]
      have i2 : (515 + (T.n : Int)).toNat = 515 + T.n := by omega
      refine And.intro (eI_in (by omega) (by omega) (by omega)) ?_
      (try simp (disch := omega) only [eI_cl, Int.toNat_natCast])
      rw [i2]
      (try simp only [eI_lit, eI_neg, eI_add, eI_sub, eI_mul, eF_ap, upd_eF])
      have u3 : updI (updI (updI σ 535 c) (495 + T.n) (AD τ N)) (515 + T.n) 0 484 = T.n := by rw [updI_n _ (by omega)]; exact u2
      rw [u3]
      generalize hS : updI (updI (updI (updI σ 535 c) (495 + T.n) (AD τ N)) (515 + T.n) 0) 484 ((T.n : Int) + 1) = σ'
      have so : ∀ q, q ≠ 484 → q ≠ 515 + T.n → q ≠ 495 + T.n → q ≠ 535 → σ' q = σ q := fun q a1 a2 a3 a4 => by rw [← hS, updI_n _ a1, updI_n _ a2, updI_n _ a3, updI_n _ a4]
      refine hq σ' (fun j hj => by rw [so j (by omega) (by omega) (by omega) (by omega)]; exact e j hj) (fun q hq => so q (by omega) (by omega) (by omega) (by omega)) ⟨?_, ?_, ?_, ?_, ?_, ?_, ?_, ?_, ?_, ?_, ?_, ?_⟩
      · rw [so 483 (by omega) (by omega) (by omega) (by omega)]; exact R.hd
      · rw [← hS, updI_s]; rfl
      · rw [so 485 (by omega) (by omega) (by omega) (by omega)]; exact R.run
      · rw [so 486 (by omega) (by omega) (by omega) (by omega)]; exact R.m
      · intro q p hqp
        have hql : q < T.hp.length := (List.getElem?_eq_some_iff.mp hqp).1
        have := R.ha q p hqp
        have hm := R.m
        by_cases hq4 : q < 4
        · rw [so _ (by omega) (by omega) (by omega) (by omega), so _ (by omega) (by omega) (by omega) (by omega)]; exact this
        · exfalso
          omega
      · intro j hj
        have hj' : j < T.n + 1 := hj
        show σ' (495 + j) = updI T.k T.n (AD τ N) j
        by_cases ej : j = T.n
        · subst ej; rw [updI_s, ← hS, updI_n _ (by omega), updI_n _ (by omega), updI_s]
        · rw [updI_n _ ej, so _ (by omega) (by omega) (by omega) (by omega)]; exact R.k j (by omega)
      · intro j hj
        have hj' : j < T.n + 1 := hj
        show σ' (515 + j) = updI T.w T.n 0 j
        by_cases ej : j = T.n
        · subst ej; rw [updI_s, ← hS, updI_n _ (by omega), updI_s]
        · rw [updI_n _ ej, so _ (by omega) (by omega) (by omega) (by omega)]; exact R.w j (by omega)
      · rw [so 536 (by omega) (by omega) (by omega) (by omega)]; exact R.v
      · intro j hj; rw [so _ (by omega) (by omega) (by omega) (by omega)]; exact R.vs j hj
      · intro j hj; rw [so _ (by omega) (by omega) (by omega) (by omega)]; exact R.vu j hj
      · intro j hj q hq; rw [so _ (by omega) (by omega) (by omega) (by omega)]; exact R.vk j hj q hq
      · intro q hq1 hq2
        have hq1' : (q : Int) < τ 1 := by rw [so 1 (by omega) (by omega) (by omega) (by omega), e 1 (by omega)] at hq1; exact hq1
        have e2 : Eqv τ σ' := fun j hj => by rw [so j (by omega) (by omega) (by omega) (by omega)]; exact e j hj
        rw [AT_c e2 (by omega) (by omega)] at hq2
        have hq2' : g + 1 < AT τ q := by rw [← hhd]; exact hq2
        have s535 : σ' 535 = c := by rw [← hS, updI_n _ (by omega), updI_n _ (by omega), updI_n _ (by omega), updI_s]
        rw [s535, ← hC, eI_of, or_bit (by omega) (by omega), hcm q hq1' (by omega)]
        have : q ≠ N := fun h => by subst h; omega
        simp [this]
    · have := (has_bit (c := eI (σ 535)) (k := N) (by omega)).mp (by rw [eF_ap] at h; exact h)
      rw [hbit] at this
      exact absurd this (by decide)
  · rw [if_neg had]
    rw [if_neg had] at hq
    refine q_lt (b := 0) (by (first | exact B31_s (by omega) (by omega) | exact B31_of _ | (constructor <;> omega))) (by (first | exact B31_s (by omega) (by omega) | exact B31_of _ | (constructor <;> omega))) (fun _ => ?_) (fun h => by omega)
    exact hq σ e (fun _ _ => rfl) R
theorem M_move {τ σ : Nat → Int} (O : LOk τ) (e : Eqv τ σ) {T : TS} (R : RT σ T) (K : TOk τ T) {i w f b : F32} {s : Int} (hs : B31 s) {Q : Int32 → F32 → F32 → F32 → F32 → F32 → Prop} (h2 : ¬ T.hd + 1 < τ 0 → Q 2 i (eF σ) w f b) (h1 : T.hd + 1 < τ 0 → ¬ (0 : Int32) ≤ eI (runN τ T (s = 1)) → ∀ i' w' f' b', (∀ q, q ≠ 27 → q ≠ 28 → i' q = i q) → Q 1 i' (eF σ) w' f' b') (h0 : T.hd + 1 < τ 0 → (0 : Int32) ≤ eI (runN τ T (s = 1)) → ∀ i' σ' w' f' b', (∀ q, q ≠ 27 → q ≠ 28 → i' q = i q) → Eqv τ σ' → (∀ q, 977 ≤ q → σ' q = σ q) → RT σ' (mv3 τ T (runN τ T (s = 1))) → Q 0 i' (eF σ') w' f' b') : w_LongTrainModel_move i (eF σ) w f b (eI s) Q := by
  have n18 := K.n18 O
  have hU := O.u
  have hkc := O.kc
  have hd0 := K.hd0
  have hd4 := K.hd4 O
  have hvge := tn_ge K.vs1
  unfold w_LongTrainModel_move
  (try simp only [eI_lit, eI_neg, eI_add, eI_sub, eI_mul, eF_ap, upd_eF])
  rw [R.hd, e 0 (by omega)]
  refine q_lt (by (first | exact B31_s (by omega) (by omega) | exact B31_of _ | (constructor <;> omega))) (by (first | exact B31_s (by omega) (by omega) | exact B31_of _ | (constructor <;> omega))) (fun hlt => ?_) (fun h => h2 (by omega))
  refine M_nowStands O e R K (by omega) (by omega) (fun i' w' f' b' hi hl hw hf hb => ?_)
  have main : ∀ (y0 y1 r : Int), r = runN τ T (s = 1) → y1 + y0 = r → j_LongTrainModel_move_64 i' (eF σ) w' f' b' (eI (T.hd + 1)) (eI y0) (eI y1) Q := fun y0 y1 r hr hy => by
    subst hr
    unfold j_LongTrainModel_move_64
    (try simp only [eI_lit, eI_neg, eI_add, eI_sub, eI_mul, eF_ap, upd_eF])
    rw [hy]
    refine ⟨fun hok => ?_, fun hno => h1 hlt hno _ _ _ _ hi⟩
    have hq := h0 hlt hok i'
    generalize hr : runN τ T (s = 1) = r at *
    generalize hS1 : updI (updI σ 483 (T.hd + 1)) 485 r = σ1
    have s1 : ∀ q, q ≠ 483 → q ≠ 485 → σ1 q = σ q := fun q a1 a2 => by rw [← hS1, updI_n _ a2, updI_n _ a1]
    have s483 : σ1 483 = T.hd + 1 := by rw [← hS1, updI_n _ (by omega), updI_s]
    have s485 : σ1 485 = r := by rw [← hS1, updI_s]
    have e1 : Eqv τ σ1 := fun j hj => by rw [s1 j (by omega) (by omega)]; exact e j hj
    obtain ⟨p1, p2, p3⟩ := lf_sp (Bad τ (fun i => ST τ (T.k i)) T.w (brp τ (TX τ T) (T.hd + 1))) T.n
    have hpt : ptN τ T ≤ T.n := p1
    have fin : j_LongTrainModel_move_166 i' (eF σ1) w' f' b' (eI (T.hd + 1)) (eI (ptN τ T)) Q := by
      unfold j_LongTrainModel_move_166
      refine lg_LongTrainModel_move_169 (G := Nat) (fun g x5 r => g ≤ ptN τ T ∧ x5 = eI g ∧ ∃ σ2, r = eF σ2 ∧ (∀ q, (q < 515 ∨ 535 ≤ q) → σ2 q = σ1 q) ∧ ∀ j, j < T.n → σ2 (515 + j) = if j < g then T.w j + ps (brp τ (TX τ T) (T.hd + 1) j) else T.w j) (fun g => ptN τ T - g) ?_ 0 ⟨by omega, rfl, σ1, rfl, fun _ _ => rfl, fun j hj => by rw [if_neg (by omega), s1 _ (by omega) (by omega)]; exact R.w j hj⟩
      rintro kr g x5 r' ⟨hg, rfl, σ2, rfl, h2o, h2w⟩ hst
      unfold b_LongTrainModel_move_169
      refine q_le (by (first | exact B31_s (by omega) (by omega) | exact B31_of _ | (constructor <;> omega))) (by (first | exact B31_s (by omega) (by omega) | exact B31_of _ | (constructor <;> omega))) (fun h => ?_) (fun h => ?_)
      · have eg : g = ptN τ T := by omega
        subst eg
        have e2 : Eqv τ σ2 := fun j hj => by rw [h2o j (by omega)]; exact e1 j hj
        have o484 : σ2 484 = T.n := by rw [h2o 484 (by omega), s1 484 (by omega) (by omega)]; exact R.n
        have R1 : RT σ2 (mv1 τ T r) := by
          refine ⟨by rw [h2o 483 (by omega)]; exact s483, o484, by rw [h2o 485 (by omega)]; exact s485, by rw [h2o 486 (by omega), s1 486 (by omega) (by omega)]; exact R.m, fun q p hqp => ?_, fun j hj => ?_, fun j hj => h2w j hj, by rw [h2o 536 (by omega), s1 536 (by omega) (by omega)]; exact R.v, fun j hj => by rw [h2o _ (by omega), s1 _ (by omega) (by omega)]; exact R.vs j hj, fun j hj => by rw [h2o _ (by omega), s1 _ (by omega) (by omega)]; exact R.vu j hj, fun j hj q hq => by rw [h2o _ (by omega), s1 _ (by omega) (by omega)]; exact R.vk j hj q hq, fun q hq1 hq2 => ?_⟩
          · have hql : q < T.hp.length := (List.getElem?_eq_some_iff.mp hqp).1
            have h4 := K.hp4
            rw [h2o _ (by omega), s1 _ (by omega) (by omega), h2o _ (by omega), s1 _ (by omega) (by omega)]; exact R.ha q p hqp
          · have hj' : j < T.n := hj
            rw [h2o _ (by omega), s1 _ (by omega) (by omega)]; exact R.k j hj
          · have hhc := O.hc
            have hq1' : (q : Int) < τ 1 := by rw [e2 1 (by omega)] at hq1; exact hq1
            rw [AT_c e2 (by omega) (by omega)] at hq2
            have hq2' : T.hd + 1 < AT τ q := hq2
            rw [h2o 535 (by omega), s1 535 (by omega) (by omega)]
            exact R.came q (by rw [e 1 (by omega)]; exact hq1') (by rw [AT_c e (by omega) (by omega)]; omega)
        have hcm : ∀ k : Nat, (k : Int) < τ 1 → T.hd < AT τ k → bitN (eI (σ2 535)) k = false := fun k hk1 hk2 => by
          have hhc := O.hc
          rw [h2o 535 (by omega), s1 535 (by omega) (by omega)]
          exact R.came k (by rw [e 1 (by omega)]; exact hk1) (by rw [AT_c e (by omega) (by omega)]; exact hk2)
        have K1 := TOk.mv1 O K hlt r
        have K2 := TOk.mv2 O K hlt r
        have n2 := K2.n18 O
        (try simp only [eI_lit, eI_neg, eI_add, eI_sub, eI_mul, eF_ap, upd_eF])
        rw [o484]
        have arr : ∀ σ3, Eqv τ σ3 → (∀ q, 977 ≤ q → σ3 q = σ q) → RT σ3 (mv2 τ T r) → σ3 535 = σ2 535 → j_LongTrainModel_move_236 i' (eF σ3) w' f' b' (eI (T.hd + 1)) Q := fun σ3 e3 t3 R3 c3 => by
          refine M_arr O e3 R3 hd0 hd4 (by omega) K2.hp4 mv2_hd (fun k hk1 hk2 => by rw [c3]; exact hcm k hk1 hk2) (fun σ4 e4 t4 R4 => ?_)
          exact hq σ4 _ _ _ hi e4 (fun q hq => by rw [t4 q hq, t3 q hq]) R4
        refine q_le (by (first | exact B31_s (by omega) (by omega) | exact B31_of _ | (constructor <;> omega))) (by (first | exact B31_s (by omega) (by omega) | exact B31_of _ | (constructor <;> omega))) (fun h3 => ?_) (fun h3 => ?_)
        · refine arr σ2 e2 (fun q hq => by rw [h2o q (by omega), s1 q (by omega) (by omega)]) ?_ rfl
          unfold mv2
          rw [if_neg (by omega)]
          exact R1
        · refine M_partsAt O e2 R1 K1 (i := ptN τ T) (by show ptN τ T < T.n; omega) (hf (ptN τ T) (by omega)) (fun σ3 e3 t3 c3 R3 => ?_)
          refine arr σ3 e3 (fun q hq => by rw [t3 q hq, h2o q (by omega), s1 q (by omega) (by omega)]) ?_ ?_
          · unfold mv2
            rw [if_pos (by omega)]
            exact R3
          · exact c3
      · have i1 : (515 + (g : Int)).toNat = 515 + g := by omega
        have hwg := h2w g (by omega)
        rw [if_neg (Nat.lt_irrefl _)] at hwg
        (try simp only [eI_lit, eI_neg, eI_add, eI_sub, eI_mul, eF_ap, upd_eF]); refine And.intro (eI_in (by omega) (by omega) (by omega)) ?_; refine And.intro (eI_in (by omega) (by omega) (by omega)) ?_; (try simp (disch := omega) only [eI_cl, Int.toNat_natCast])
        rw [i1, hwg, hb g (by omega)]
        have step : ∀ v, v = T.w g + ps (brp τ (TX τ T) (T.hd + 1) g) → kr (eI (g + 1)) (eF (updI σ2 (515 + g) v)) := fun v hv => by
          refine hst (g + 1) _ _ (by omega) ⟨by omega, by congr 1, _, rfl, fun q hq => by rw [updI_n _ (by omega)]; exact h2o q hq, fun j hj => ?_⟩
          by_cases hjg : j = g
          · subst hjg; rw [updI_s, if_pos (by omega)]; exact hv
          · rw [updI_n _ (by omega), h2w j hj]
            by_cases hlt2 : j < g
            · rw [if_pos hlt2, if_pos (by omega)]
            · rw [if_neg hlt2, if_neg (by omega)]
        refine ⟨fun h4 => ?_, fun h4 => ?_⟩
        · refine And.intro (eI_in (by omega) (by omega) (by omega)) ?_
          refine step _ ?_
          unfold ps
          have h4' : ¬ (0 : Int32) < eI (brp τ (TX τ T) (T.hd + 1) g) := Int32.not_lt.mpr h4
          rw [if_neg h4']
        · refine And.intro (eI_in (by omega) (by omega) (by omega)) ?_; refine And.intro (eI_in (by omega) (by omega) (by omega)) ?_; (try simp only [eI_lit, eI_neg, eI_add, eI_sub, eI_mul, eF_ap, upd_eF])
          refine step _ ?_
          unfold ps
          have h4' : (0 : Int32) < eI (brp τ (TX τ T) (T.hd + 1) g) := Int32.not_le.mp h4
          rw [if_pos h4']
    refine lg_LongTrainModel_move_93 (G := Nat) (fun g x4 => g ≤ T.n ∧ x4 = eI g ∧ ∀ j, j < g → ¬ Bad τ (fun i => ST τ (T.k i)) T.w (brp τ (TX τ T) (T.hd + 1)) j) (fun g => T.n - g) ?_ 0 ⟨by omega, rfl, fun m hm => absurd hm (Nat.not_lt_zero _)⟩
    rintro kr g x4 ⟨hg, rfl, hnb⟩ hst
    unfold b_LongTrainModel_move_93
    rw [eF_ap, s1 484 (by omega) (by omega), R.n]
    have done : (g < T.n → Bad τ (fun i => ST τ (T.k i)) T.w (brp τ (TX τ T) (T.hd + 1)) g) → j_LongTrainModel_move_166 i' (eF σ1) w' f' b' (eI (T.hd + 1)) (eI g) Q := fun hB => by
      have : ptN τ T = g := lf_eq hg hnb hB
      rw [← this]; exact fin
    refine q_le (by (first | exact B31_s (by omega) (by omega) | exact B31_of _ | (constructor <;> omega))) (by (first | exact B31_s (by omega) (by omega) | exact B31_of _ | (constructor <;> omega))) (fun h => done (fun h => by omega)) (fun h => ?_)
    have hk := K.k g (by omega)
    refine And.intro (eI_in (by omega) (by omega) (by omega)) ?_; refine And.intro (eI_in (by omega) (by omega) (by omega)) ?_; (try simp (disch := omega) only [eI_cl, Int.toNat_natCast])
    rw [hw g (by omega), hb g (by omega)]
    refine M_strengthOf hk.1 (by omega) ?_
    rw [ST_c e1 hk.1 (by omega)]
    refine ⟨fun h3 => done (fun _ => Or.inl h3), fun h3 => ?_⟩
    have i1 : (515 + (g : Int)).toNat = 515 + g := by omega
    (try simp only [eI_lit, eI_neg, eI_add, eI_sub, eI_mul, eF_ap, upd_eF]); refine And.intro (eI_in (by omega) (by omega) (by omega)) ?_; refine And.intro (eI_in (by omega) (by omega) (by omega)) ?_; (try simp (disch := omega) only [eI_cl, Int.toNat_natCast])
    refine M_strengthOf hk.1 (by omega) ?_
    rw [ST_c e1 hk.1 (by omega), i1, s1 (515 + g) (by omega) (by omega), R.w g (by omega), e1 8 (by omega)]
    (try simp only [eI_lit, eI_neg, eI_add, eI_sub, eI_mul, eF_ap, upd_eF])
    refine ⟨fun h4 => done (fun _ => Or.inr h4), fun h4 => ?_⟩
    refine hst (g + 1) _ (by omega) ⟨by omega, by congr 1, fun j hj => ?_⟩
    by_cases hjg : j = g
    · subst hjg
      rintro (h5 | h5)
      · exact h3 h5
      · exact h4 h5
    · exact hnb j (by omega)
  rw [hl, R.run, e 4 (by omega), e 7 (by omega)]
  (try simp only [eI_lit, eI_neg, eI_add, eI_sub, eI_mul, eF_ap, upd_eF])
  refine q_ne hs (by (first | exact B31_s (by omega) (by omega) | exact B31_of _ | (constructor <;> omega))) (fun h3 => ?_) (fun h3 => ?_)
  · refine main 0 _ _ rfl ?_
    unfold runN
    rw [if_neg h3]
  · refine main _ _ _ rfl ?_
    unfold runN
    rw [if_pos h3]
