/-! judge: what is meant, and the reference -/
abbrev PS := Nat × (Nat → Int) × (Nat → Int) × (Nat → Int)
abbrev PS.n (P : PS) : Nat := P.1
abbrev PS.w (P : PS) : Nat → Int := P.2.1
abbrev PS.a (P : PS) : Nat → Int := P.2.2.1
abbrev PS.b (P : PS) : Nat → Int := P.2.2.2
abbrev RP (σ : Nat → Int) (P : PS) : Prop :=
  (σ 977 = P.n) ∧
  (∀ i, i < P.n → σ (978 + 3 * i) = P.w i) ∧
  (∀ i, i < P.n → σ (978 + 3 * i + 1) = P.a i) ∧
  (∀ i, i < P.n → σ (978 + 3 * i + 2) = P.b i)
theorem RP.n {σ : Nat → Int} {P : PS} (h : RP σ P) : σ 977 = P.n := h.1
theorem RP.w {σ : Nat → Int} {P : PS} (h : RP σ P) : ∀ i, i < P.n → σ (978 + 3 * i) = P.w i := h.2.1
theorem RP.a {σ : Nat → Int} {P : PS} (h : RP σ P) : ∀ i, i < P.n → σ (978 + 3 * i + 1) = P.a i := h.2.2.1
theorem RP.b {σ : Nat → Int} {P : PS} (h : RP σ P) : ∀ i, i < P.n → σ (978 + 3 * i + 2) = P.b i := h.2.2.2
abbrev POk (P : PS) : Prop :=
  (P.n ≤ 30) ∧
  (∀ i, i < P.n → 0 ≤ P.w i ∧ P.w i ≤ 5) ∧
  (∀ i, i < P.n → P.w i < 2 → 1 ≤ P.a i ∧ P.a i ≤ 400) ∧
  (∀ i, i < P.n → P.w i = 2 ∨ P.w i = 4 → 0 ≤ P.a i ∧ P.a i ≤ 19) ∧
  (∀ i, i < P.n → P.w i = 2 → 1 ≤ P.b i ∧ P.b i ≤ 999)
theorem POk.n {P : PS} (h : POk P) : P.n ≤ 30 := h.1
theorem POk.w {P : PS} (h : POk P) : ∀ i, i < P.n → 0 ≤ P.w i ∧ P.w i ≤ 5 := h.2.1
theorem POk.g {P : PS} (h : POk P) : ∀ i, i < P.n → P.w i < 2 → 1 ≤ P.a i ∧ P.a i ≤ 400 := h.2.2.1
theorem POk.h {P : PS} (h : POk P) : ∀ i, i < P.n → P.w i = 2 ∨ P.w i = 4 → 0 ≤ P.a i ∧ P.a i ≤ 19 := h.2.2.2.1
theorem POk.b {P : PS} (h : POk P) : ∀ i, i < P.n → P.w i = 2 → 1 ≤ P.b i ∧ P.b i ≤ 999 := h.2.2.2.2
def addH (T : TS) (a b : Int) : TS := ⟨T.hd, T.n, T.k, T.w, T.run, T.hp ++ [(a, b)], T.v, T.vs, T.vu, T.vk⟩
def offH (T : TS) : TS := ⟨T.hd, T.n, T.k, T.w, T.run, [], T.v, T.vs, T.vu, T.vk⟩
def restT (T : TS) : TS := ⟨T.hd, T.n, T.k, T.w, 0, T.hp, T.v, T.vs, T.vu, T.vk⟩
noncomputable def dr (τ : Nat → Int) (w a b : Int) (T : TS) : Int × TS × Nat :=
  if w < 2 then ((mvs τ w a.toNat T).2.1, (mvs τ w a.toNat T).2.2, (mvs τ w a.toNat T).1)
  else if w = 2 then (if (T.n : Int) ≤ a then (3, T, 0) else if T.hp.length = 4 then (5, T, 0) else (0, addH T a b, 0))
  else if w = 3 then (if T.hp.length = 0 then (4, T, 0) else (0, offH T, 0))
  else if w = 4 then (if (T.n : Int) ≤ a then (3, T, 0) else (0, cutT τ T a.toNat, 0))
  else (if eI T.run = 0 then (6, T, 0) else (0, restT T, 0))
noncomputable def jd (τ : Nat → Int) (P : PS) : Nat → Nat → TS → Nat → Nat → Int × Int × TS × Nat × Nat
  | 0, _, T, m, s => (-1, 0, T, m, s)
  | n + 1, i, T, m, s => if (dr τ (P.w i) (P.a i) (P.b i) T).1 = 0 then jd τ P n (i + 1) (dr τ (P.w i) (P.a i) (P.b i) T).2.1 (m + (dr τ (P.w i) (P.a i) (P.b i) T).2.2) (s + if P.w i = 1 then (dr τ (P.w i) (P.a i) (P.b i) T).2.2 else 0) else ((i : Int), (dr τ (P.w i) (P.a i) (P.b i) T).1, (dr τ (P.w i) (P.a i) (P.b i) T).2.1, m + (dr τ (P.w i) (P.a i) (P.b i) T).2.2, s + if P.w i = 1 then (dr τ (P.w i) (P.a i) (P.b i) T).2.2 else 0)
theorem dr_bd (τ : Nat → Int) (w a b : Int) (T : TS) : 0 ≤ (dr τ w a b T).1 ∧ (dr τ w a b T).1 ≤ 6 := by
  have := mvs_bd τ w a.toNat T
  unfold dr
  split
  · exact ⟨this.2.1, by show (mvs τ w a.toNat T).2.1 ≤ 6; omega⟩
  · split
    · split
      · exact ⟨by show (0 : Int) ≤ 3; omega, by show (3 : Int) ≤ 6; omega⟩
      · split
        · exact ⟨by show (0 : Int) ≤ 5; omega, by show (5 : Int) ≤ 6; omega⟩
        · exact ⟨by show (0 : Int) ≤ 0; omega, by show (0 : Int) ≤ 6; omega⟩
    · split
      · split
        · exact ⟨by show (0 : Int) ≤ 4; omega, by show (4 : Int) ≤ 6; omega⟩
        · exact ⟨by show (0 : Int) ≤ 0; omega, by show (0 : Int) ≤ 6; omega⟩
      · split
        · split
          · exact ⟨by show (0 : Int) ≤ 3; omega, by show (3 : Int) ≤ 6; omega⟩
          · exact ⟨by show (0 : Int) ≤ 0; omega, by show (0 : Int) ≤ 6; omega⟩
        · split
          · exact ⟨by show (0 : Int) ≤ 6; omega, by show (6 : Int) ≤ 6; omega⟩
          · exact ⟨by show (0 : Int) ≤ 0; omega, by show (0 : Int) ≤ 6; omega⟩
theorem dr_ok {τ : Nat → Int} (O : LOk τ) {w a b : Int} {T : TS} (K : TOk τ T) (ha : 0 ≤ a) : TOk τ (dr τ w a b T).2.1 := by
  have h4 := K.hp4
  unfold dr
  split
  · exact mvs_ok O w a.toNat T K
  · split
    · split
      · exact K
      · rename_i hn
        split
        · exact K
        · rename_i hl
          refine ⟨K.hd0, K.hd1, K.k, K.sz, K.vs1, K.vk, K.vu, ?_, fun p hp => ?_⟩
          · show (T.hp ++ [(a, b)]).length ≤ 4
            rw [List.length_append]
            have : [(a, b)].length = 1 := rfl
            omega
          · have hp' : p ∈ T.hp ++ [(a, b)] := hp
            rcases List.mem_append.mp hp' with h | h
            · exact K.hpa p h
            · have : p = (a, b) := by simpa using h
              subst this
              exact ⟨ha, by show a < (T.n : Int); omega⟩
    · split
      · split
        · exact K
        · exact ⟨K.hd0, K.hd1, K.k, K.sz, K.vs1, K.vk, K.vu, by show 0 ≤ 4; omega, fun p hp => by have hp' : p ∈ ([] : List (Int × Int)) := hp; exact absurd hp' (List.not_mem_nil)⟩
      · split
        · split
          · exact K
          · exact TOk.cut O K (by omega)
        · split
          · exact K
          · exact ⟨K.hd0, K.hd1, K.k, K.sz, K.vs1, K.vk, K.vu, K.hp4, K.hpa⟩
theorem M_does {τ σ : Nat → Int} (O : LOk τ) (e : Eqv τ σ) {T : TS} (R : RT σ T) (K : TOk τ T) {i w f b j : F32} {x y z : Int} (hx : 0 ≤ x ∧ x ≤ 5) (hg : x < 2 → 1 ≤ y ∧ y ≤ 400) (hh : x = 2 ∨ x = 4 → 0 ≤ y ∧ y ≤ 19) {Q : Int32 → F32 → F32 → F32 → F32 → F32 → F32 → Prop} (hq : ∀ i' σ' w' f' b' j', (∀ q, q ≠ 27 → q ≠ 28 → q ≠ 39 → q ≠ 40 → i' q = i q) → Eqv τ σ' → (∀ q, 977 ≤ q → σ' q = σ q) → RT σ' (dr τ x y z T).2.1 → j' 1 = j 1 + eI (dr τ x y z T).2.2 → j' 2 = j 2 + eI ((if x = 1 then (dr τ x y z T).2.2 else 0 : Nat) : Int) → Q (eI (dr τ x y z T).1) i' (eF σ') w' f' b' j') : w_LongTrainModel_does i (eF σ) w f b j (eI x) (eI y) (eI z) Q := by
  have hbx : B31 x := by (first | exact B31_s (by omega) (by omega) | exact B31_of _ | (constructor <;> omega))
  have n18 := K.n18 O
  have h4 := K.hp4
  have j10 : ∀ v : Int32, v = v + eI ((0 : Nat) : Int) := fun v => by show v = v + 0; simp
  have same : (dr τ x y z T).2.1 = T → (dr τ x y z T).2.2 = 0 → ∀ c, (dr τ x y z T).1 = c → Q (eI c) i (eF σ) w f b j := fun hT hm c hc => by
    have := hq i σ w f b j (fun _ _ _ _ _ => rfl) e (fun _ _ => rfl) (by rw [hT]; exact R) (by rw [hm]; exact j10 _) (by rw [hm]; split <;> exact j10 _)
    rw [hc] at this; exact this
  unfold w_LongTrainModel_does
  refine q_eq (b := 0) hbx (by (first | exact B31_s (by omega) (by omega) | exact B31_of _ | (constructor <;> omega))) (fun c0 => ?_) (fun c0 => ?_)
  · obtain ⟨y1, y2⟩ := hg (by omega)
    have ey : y = ((y.toNat : Nat) : Int) := by omega
    have hd : dr τ x y z T = ((mvs τ x y.toNat T).2.1, (mvs τ x y.toNat T).2.2, (mvs τ x y.toNat T).1) := by unfold dr; rw [if_pos (by omega)]
    rw [hd] at hq
    rw [ey]
    refine M_moves O e R K (by omega) hbx (fun i' σ' w' f' b' hi h39 h40 e' t' R' => ?_)
    rw [h39, h40]
    refine q_ne (b := 1) hbx (by (first | exact B31_s (by omega) (by omega) | exact B31_of _ | (constructor <;> omega))) (fun _ => ?_) (fun h => by omega)
    refine hq i' σ' w' f' b' _ hi e' t' R' ?_ ?_
    · rw [upd_n (by omega), upd_s]
    · rw [upd_s, upd_n (by omega), if_neg (by omega)]; rfl
  refine q_eq (b := 1) hbx (by (first | exact B31_s (by omega) (by omega) | exact B31_of _ | (constructor <;> omega))) (fun c1 => ?_) (fun c1 => ?_)
  · obtain ⟨y1, y2⟩ := hg (by omega)
    have ey : y = ((y.toNat : Nat) : Int) := by omega
    have hd : dr τ x y z T = ((mvs τ x y.toNat T).2.1, (mvs τ x y.toNat T).2.2, (mvs τ x y.toNat T).1) := by unfold dr; rw [if_pos (by omega)]
    rw [hd] at hq
    rw [ey]
    refine M_moves O e R K (by omega) hbx (fun i' σ' w' f' b' hi h39 h40 e' t' R' => ?_)
    rw [h39, h40]
    refine q_ne (b := 1) hbx (by (first | exact B31_s (by omega) (by omega) | exact B31_of _ | (constructor <;> omega))) (fun h => by omega) (fun _ => ?_)
    refine hq i' σ' w' f' b' _ hi e' t' R' ?_ ?_
    · rw [upd_n (by omega), upd_s]
    · rw [upd_s, upd_n (by omega), if_pos c1]
  have hdd : dr τ x y z T = (if x = 2 then (if (T.n : Int) ≤ y then (3, T, 0) else if T.hp.length = 4 then (5, T, 0) else (0, addH T y z, 0))
    else if x = 3 then (if T.hp.length = 0 then (4, T, 0) else (0, offH T, 0))
    else if x = 4 then (if (T.n : Int) ≤ y then (3, T, 0) else (0, cutT τ T y.toNat, 0))
    else (if eI T.run = 0 then (6, T, 0) else (0, restT T, 0))) := by unfold dr; rw [if_neg (by omega)]
  have x1 : ¬ x = 1 := c1
  refine q_eq (b := 2) hbx (by (first | exact B31_s (by omega) (by omega) | exact B31_of _ | (constructor <;> omega))) (fun c2 => ?_) (fun c2 => ?_)
  · rw [if_pos c2] at hdd
    obtain ⟨y1, y2⟩ := hh (Or.inl c2)
    rw [eF_ap, R.n]
    refine q_lt (by (first | exact B31_s (by omega) (by omega) | exact B31_of _ | (constructor <;> omega))) (by (first | exact B31_s (by omega) (by omega) | exact B31_of _ | (constructor <;> omega))) (fun h => ?_) (fun h => ?_)
    · rw [if_neg (by omega)] at hdd
      rw [eF_ap, R.m]
      refine q_ne (b := 4) (by (first | exact B31_s (by omega) (by omega) | exact B31_of _ | (constructor <;> omega))) (by (first | exact B31_s (by omega) (by omega) | exact B31_of _ | (constructor <;> omega))) (fun hne => ?_) (fun heq => ?_)
      · rw [if_neg (by omega)] at hdd
        rw [hdd] at hq
        have i1 : (487 + (T.hp.length : Int)).toNat = 487 + T.hp.length := by omega
        have i2 : (491 + (T.hp.length : Int)).toNat = 491 + T.hp.length := by omega
        (try simp only [eI_lit, eI_neg, eI_add, eI_sub, eI_mul, eF_ap, upd_eF]); refine And.intro (eI_in (by omega) (by omega) (by omega)) ?_; (try simp (disch := omega) only [eI_cl, Int.toNat_natCast])
        rw [i1]
        (try simp only [eI_lit, eI_neg, eI_add, eI_sub, eI_mul, eF_ap, upd_eF])
        have u1 : updI σ (487 + T.hp.length) y 486 = T.hp.length := by rw [updI_n _ (by omega)]; exact R.m
        rw [u1]
        refine And.intro (eI_in (by omega) (by omega) (by omega)) ?_; (try simp (disch := omega) only [eI_cl, Int.toNat_natCast])
        rw [i2]
        (try simp only [eI_lit, eI_neg, eI_add, eI_sub, eI_mul, eF_ap, upd_eF])
        have u2 : updI (updI σ (487 + T.hp.length) y) (491 + T.hp.length) z 486 = T.hp.length := by rw [updI_n _ (by omega)]; exact u1
        rw [u2]
        generalize hS : updI (updI (updI σ (487 + T.hp.length) y) (491 + T.hp.length) z) 486 ((T.hp.length : Int) + 1) = σ'
        have so : ∀ q, q ≠ 486 → q ≠ 491 + T.hp.length → q ≠ 487 + T.hp.length → σ' q = σ q := fun q a1 a2 a3 => by rw [← hS, updI_n _ a1, updI_n _ a2, updI_n _ a3]
        have e' : Eqv τ σ' := fun q hq => by rw [so q (by omega) (by omega) (by omega)]; exact e q hq
        refine hq i σ' w f b j (fun _ _ _ _ _ => rfl) e' (fun q hq => so q (by omega) (by omega) (by omega)) ⟨?_, ?_, ?_, ?_, ?_, ?_, ?_, ?_, ?_, ?_, ?_, ?_⟩ (j10 _) (by rw [if_neg x1]; exact j10 _)
        · rw [so 483 (by omega) (by omega) (by omega)]; exact R.hd
        · rw [so 484 (by omega) (by omega) (by omega)]; exact R.n
        · rw [so 485 (by omega) (by omega) (by omega)]; exact R.run
        · rw [← hS, updI_s]
          show _ = ((T.hp ++ [(y, z)]).length : Int)
          rw [List.length_append]
          have : [(y, z)].length = 1 := rfl
          omega
        · intro q p hqp
          have hqp' : (T.hp ++ [(y, z)])[q]? = some p := hqp
          by_cases hql : q < T.hp.length
          · rw [List.getElem?_append_left hql] at hqp'
            rw [so _ (by omega) (by omega) (by omega), so _ (by omega) (by omega) (by omega)]
            exact R.ha q p hqp'
          · have hqe : q = T.hp.length := by
              have := (List.getElem?_eq_some_iff.mp hqp').1
              rw [List.length_append] at this
              have h1 : [(y, z)].length = 1 := rfl
              omega
            subst hqe
            rw [List.getElem?_append_right (Nat.le_refl _), Nat.sub_self] at hqp'
            have hpe : (y, z) = p := by simpa using hqp'
            rw [← hpe, ← hS, updI_n _ (by omega), updI_n _ (by omega), updI_s, updI_n _ (by omega), updI_s]
            exact ⟨rfl, rfl⟩
        · intro q hq
          have hq' : q < T.n := hq
          rw [so _ (by omega) (by omega) (by omega)]; exact R.k q hq
        · intro q hq
          have hq' : q < T.n := hq
          rw [so _ (by omega) (by omega) (by omega)]; exact R.w q hq
        · rw [so 536 (by omega) (by omega) (by omega)]; exact R.v
        · intro q hq; rw [so _ (by omega) (by omega) (by omega)]; exact R.vs q hq
        · intro q hq; rw [so _ (by omega) (by omega) (by omega)]; exact R.vu q hq
        · intro q hq r hr; rw [so _ (by omega) (by omega) (by omega)]; exact R.vk q hq r hr
        · intro q hq1 hq2
          have hhc := O.hc
          rw [so 1 (by omega) (by omega) (by omega)] at hq1
          have hq1' : (q : Int) < τ 1 := by rw [e 1 (by omega)] at hq1; exact hq1
          rw [so 535 (by omega) (by omega) (by omega)]
          rw [AT_c e' (by omega) (by omega), ← AT_c e (by omega) (by omega)] at hq2
          exact R.came q hq1 hq2
      · rw [if_pos (by omega)] at hdd
        exact same (by rw [hdd]) (by rw [hdd]) 5 (by rw [hdd])
    · rw [if_pos (by omega)] at hdd
      exact same (by rw [hdd]) (by rw [hdd]) 3 (by rw [hdd])
  rw [if_neg c2] at hdd
  refine q_eq (b := 3) hbx (by (first | exact B31_s (by omega) (by omega) | exact B31_of _ | (constructor <;> omega))) (fun c3 => ?_) (fun c3 => ?_)
  · rw [if_pos c3] at hdd
    rw [eF_ap, R.m]
    refine q_ne (b := 0) (by (first | exact B31_s (by omega) (by omega) | exact B31_of _ | (constructor <;> omega))) (by (first | exact B31_s (by omega) (by omega) | exact B31_of _ | (constructor <;> omega))) (fun hne => ?_) (fun heq => ?_)
    · rw [if_neg (by omega)] at hdd
      rw [hdd] at hq
      (try simp only [eI_lit, eI_neg, eI_add, eI_sub, eI_mul, eF_ap, upd_eF])
      generalize hS : updI σ 486 0 = σ'
      have so : ∀ q, q ≠ 486 → σ' q = σ q := fun q a1 => by rw [← hS, updI_n _ a1]
      have e' : Eqv τ σ' := fun q hq => by rw [so q (by omega)]; exact e q hq
      refine hq i σ' w f b j (fun _ _ _ _ _ => rfl) e' (fun q hq => so q (by omega)) ⟨?_, ?_, ?_, ?_, ?_, ?_, ?_, ?_, ?_, ?_, ?_, ?_⟩ (j10 _) (by rw [if_neg x1]; exact j10 _)
      · rw [so 483 (by omega)]; exact R.hd
      · rw [so 484 (by omega)]; exact R.n
      · rw [so 485 (by omega)]; exact R.run
      · rw [← hS, updI_s]; rfl
      · intro q p hqp
        have hqp' : ([] : List (Int × Int))[q]? = some p := hqp
        simp at hqp'
      · intro q hq; rw [so _ (by omega)]; exact R.k q hq
      · intro q hq; rw [so _ (by omega)]; exact R.w q hq
      · rw [so 536 (by omega)]; exact R.v
      · intro q hq; rw [so _ (by omega)]; exact R.vs q hq
      · intro q hq; rw [so _ (by omega)]; exact R.vu q hq
      · intro q hq r hr; rw [so _ (by omega)]; exact R.vk q hq r hr
      · intro q hq1 hq2
        have hhc := O.hc
        rw [so 1 (by omega)] at hq1
        have hq1' : (q : Int) < τ 1 := by rw [e 1 (by omega)] at hq1; exact hq1
        rw [so 535 (by omega)]
        rw [AT_c e' (by omega) (by omega), ← AT_c e (by omega) (by omega)] at hq2
        exact R.came q hq1 hq2
    · rw [if_pos (by omega)] at hdd
      exact same (by rw [hdd]) (by rw [hdd]) 4 (by rw [hdd])
  rw [if_neg c3] at hdd
  refine q_eq (b := 4) hbx (by (first | exact B31_s (by omega) (by omega) | exact B31_of _ | (constructor <;> omega))) (fun c4 => ?_) (fun c4 => ?_)
  · rw [if_pos c4] at hdd
    obtain ⟨y1, y2⟩ := hh (Or.inr c4)
    rw [eF_ap, R.n]
    refine q_lt (by (first | exact B31_s (by omega) (by omega) | exact B31_of _ | (constructor <;> omega))) (by (first | exact B31_s (by omega) (by omega) | exact B31_of _ | (constructor <;> omega))) (fun h => ?_) (fun h => ?_)
    · rw [if_neg (by omega)] at hdd
      rw [hdd] at hq
      rw [eF_ap, R.hd]
      refine M_nowStands O e R K K.hd0 (K.hd4 O) (fun i' w' f' b' hi hl hw hf hb => ?_)
      have ey : y = ((y.toNat : Nat) : Int) := by omega
      rw [ey]
      refine M_partsAt O e R K (i := y.toNat) (by omega) (hf _ (by omega)) (fun σ' e' t' c' R' => ?_)
      exact hq i' σ' w' f' b' j (fun q a1 a2 _ _ => hi q a1 a2) e' t' R' (j10 _) (by rw [if_neg x1]; exact j10 _)
    · rw [if_pos (by omega)] at hdd
      exact same (by rw [hdd]) (by rw [hdd]) 3 (by rw [hdd])
  rw [if_neg c4] at hdd
  rw [eF_ap, R.run]
  refine ⟨fun hne => ?_, fun heq => ?_⟩
  · rw [if_neg hne] at hdd
    rw [hdd] at hq
    (try simp only [eI_lit, eI_neg, eI_add, eI_sub, eI_mul, eF_ap, upd_eF])
    generalize hS : updI σ 485 0 = σ'
    have so : ∀ q, q ≠ 485 → σ' q = σ q := fun q a1 => by rw [← hS, updI_n _ a1]
    have e' : Eqv τ σ' := fun q hq => by rw [so q (by omega)]; exact e q hq
    refine hq i σ' w f b j (fun _ _ _ _ _ => rfl) e' (fun q hq => so q (by omega)) ⟨?_, ?_, ?_, ?_, ?_, ?_, ?_, ?_, ?_, ?_, ?_, ?_⟩ (j10 _) (by rw [if_neg x1]; exact j10 _)
    · rw [so 483 (by omega)]; exact R.hd
    · rw [so 484 (by omega)]; exact R.n
    · rw [← hS, updI_s]; rfl
    · rw [so 486 (by omega)]; exact R.m
    · intro q p hqp; rw [so _ (by omega), so _ (by omega)]; exact R.ha q p hqp
    · intro q hq; rw [so _ (by omega)]; exact R.k q hq
    · intro q hq; rw [so _ (by omega)]; exact R.w q hq
    · rw [so 536 (by omega)]; exact R.v
    · intro q hq; rw [so _ (by omega)]; exact R.vs q hq
    · intro q hq; rw [so _ (by omega)]; exact R.vu q hq
    · intro q hq r hr; rw [so _ (by omega)]; exact R.vk q hq r hr
    · intro q hq1 hq2
      have hhc := O.hc
      rw [so 1 (by omega)] at hq1
      have hq1' : (q : Int) < τ 1 := by rw [e 1 (by omega)] at hq1; exact hq1
      rw [so 535 (by omega)]
      rw [AT_c e' (by omega) (by omega), ← AT_c e (by omega) (by omega)] at hq2
      exact R.came q hq1 hq2
  · rw [if_pos heq] at hdd
    exact same (by rw [hdd]) (by rw [hdd]) 6 (by rw [hdd])
def EqA (σ σ' : Nat → Int) : Prop := ∀ q, q < 1068 → σ' q = σ q
theorem EqA.v {τ σ σ' : Nat → Int} (h : EqA σ σ') (e : Eqv τ σ) : Eqv τ σ' := fun j hj => by rw [h j (by omega)]; exact e j hj
theorem RT.g {τ σ σ' : Nat → Int} (O : LOk τ) (e : Eqv τ σ) (h : EqA σ σ') {T : TS} (R : RT σ T) (K : TOk τ T) : RT σ' T := by
  have n18 := K.n18 O
  have h4 := K.hp4
  have hvge := tn_ge K.vs1
  have e' := h.v e
  refine ⟨by rw [h 483 (by omega)]; exact R.hd, by rw [h 484 (by omega)]; exact R.n, by rw [h 485 (by omega)]; exact R.run, by rw [h 486 (by omega)]; exact R.m, fun q p hqp => ?_, fun j hj => ?_, fun j hj => ?_, by rw [h 536 (by omega)]; exact R.v, fun j hj => by rw [h _ (by omega)]; exact R.vs j hj, fun j hj => by rw [h _ (by omega)]; exact R.vu j hj, fun j hj q hq => ?_, fun q hq1 hq2 => ?_⟩
  · have hql : q < T.hp.length := (List.getElem?_eq_some_iff.mp hqp).1
    rw [h _ (by omega), h _ (by omega)]; exact R.ha q p hqp
  · rw [h _ (by omega)]; exact R.k j hj
  · rw [h _ (by omega)]; exact R.w j hj
  · have htm := tn_mono (f := T.vs) hj
    rw [h _ (by omega)]; exact R.vk j hj q hq
  · have hhc := O.hc
    rw [h 1 (by omega)] at hq1
    have hq1' : (q : Int) < τ 1 := by rw [e 1 (by omega)] at hq1; exact hq1
    rw [h 535 (by omega)]
    rw [AT_c e' (by omega) (by omega), ← AT_c e (by omega) (by omega)] at hq2
    exact R.came q hq1 hq2
theorem RP.g {σ σ' : Nat → Int} (h : ∀ q, 977 ≤ q → q < 1068 → σ' q = σ q) {P : PS} (R : RP σ P) (K : POk P) : RP σ' P := by
  have := K.n
  refine ⟨by rw [h 977 (by omega) (by omega)]; exact R.n, fun j hj => by rw [h _ (by omega) (by omega)]; exact R.w j hj, fun j hj => by rw [h _ (by omega) (by omega)]; exact R.a j hj, fun j hj => by rw [h _ (by omega) (by omega)]; exact R.b j hj⟩
theorem jd_ok {τ : Nat → Int} (O : LOk τ) {P : PS} (KP' : POk P) : ∀ (n i : Nat) (T : TS) (m s : Nat), i + n ≤ P.n → TOk τ T → TOk τ (jd τ P n i T m s).2.2.1
  | 0, i, T, m, s, _, K => K
  | n + 1, i, T, m, s, hin, K => by
    have ha : TOk τ (dr τ (P.w i) (P.a i) (P.b i) T).2.1 := by
      by_cases hw : P.w i = 3 ∨ P.w i = 5
      · unfold dr
        rcases hw with hw | hw
        · rw [if_neg (by omega), if_neg (by omega), if_pos hw]
          have h0 : TOk τ (dr τ 3 0 0 T).2.1 := dr_ok O K (by omega)
          unfold dr at h0
          rw [if_neg (by omega), if_neg (by omega), if_pos rfl] at h0
          exact h0
        · rw [if_neg (by omega), if_neg (by omega), if_neg (by omega), if_neg (by omega)]
          have h0 : TOk τ (dr τ 5 0 0 T).2.1 := dr_ok O K (by omega)
          unfold dr at h0
          rw [if_neg (by omega), if_neg (by omega), if_neg (by omega), if_neg (by omega)] at h0
          exact h0
      · have hwi := KP'.w i (by omega)
        refine dr_ok O K ?_
        by_cases h2 : P.w i < 2
        · have := KP'.g i (by omega) h2; omega
        · have := KP'.h i (by omega) (by omega); omega
    unfold jd
    split
    · exact jd_ok O KP' n (i + 1) _ _ _ (by omega) ha
    · exact ha
/-- the row that is wrong, and why -/
theorem jd_w (τ : Nat → Int) (P : PS) : ∀ (n i : Nat) (T : TS) (m s : Nat), -1 ≤ (jd τ P n i T m s).1 ∧ (jd τ P n i T m s).1 < ((i + n : Nat) : Int)
  | 0, i, T, m, s => ⟨by show (-1 : Int) ≤ -1; omega, by show (-1 : Int) < _; omega⟩
  | n + 1, i, T, m, s => by
    unfold jd
    split
    · have := jd_w τ P n (i + 1) (dr τ (P.w i) (P.a i) (P.b i) T).2.1 (m + (dr τ (P.w i) (P.a i) (P.b i) T).2.2) (s + if P.w i = 1 then (dr τ (P.w i) (P.a i) (P.b i) T).2.2 else 0)
      omega
    · exact ⟨by show -1 ≤ (i : Int); omega, by show (i : Int) < _; omega⟩
theorem M_judge {τ σ : Nat → Int} (O : LOk τ) (e : Eqv τ σ) {T : TS} (R : RT σ T) (K : TOk τ T) {P : PS} (RP' : RP σ P) (PK : POk P) {i bf j w f b : F32} {h : Int} (hh : B31 h) {Q : Int32 → F32 → F32 → F32 → F32 → F32 → F32 → F32 → Prop} (h0 : ¬ (0 ≤ h ∧ h ≤ 1) → ∀ i', KP i i' → Q (-2) i' bf (eF σ) j w f b) (hq : 0 ≤ h ∧ h ≤ 1 → ∀ i' bf' σ' j' w' f' b', (∀ q, q = 2 ∨ q = 15 ∨ q = 33 ∨ q = 38 → i' q = i q) → i' 44 = 1 → j' 0 = eI (jd τ P P.n 0 T 0 0).2.1 → j' 1 = eI (jd τ P P.n 0 T 0 0).2.2.2.1 → j' 2 = eI (jd τ P P.n 0 T 0 0).2.2.2.2 → j' 3 = eI (jd τ P P.n 0 T 0 0).2.2.1.hd → j' 4 = eI (jd τ P P.n 0 T 0 0).2.2.1.n → j' 5 = eI (jd τ P P.n 0 T 0 0).2.2.1.v → Eqv τ σ' → RP σ' P → (h = 0 → EqA σ σ') → (h = 1 → RT σ' (jd τ P P.n 0 T 0 0).2.2.1) → Q (eI (jd τ P P.n 0 T 0 0).1) i' bf' (eF σ') j' w' f' b') : w_LongTrainModel_judge i bf (eF σ) j w f b (eI h) Q := by
  have hPn := PK.n
  unfold w_LongTrainModel_judge
  refine M_isIn (b := 0) (c := 1) hh (by (first | exact B31_s (by omega) (by omega) | exact B31_of _ | (constructor <;> omega))) (by (first | exact B31_s (by omega) (by omega) | exact B31_of _ | (constructor <;> omega))) (fun a1 a2 => ?_) (fun a => by (first | refine z0T ?_ | refine z0N ?_); exact h0 a _ KP.u0)
  (first | refine z1T ?_ | refine z1N ?_)
  have hq' := hq ⟨a1, a2⟩
  refine lg_LongTrainModel_judge_19 (G := Nat) (fun g x r => g ≤ 1068 ∧ x = eI g ∧ ∀ q, q < g → r q = eI (σ q)) (fun g => 1068 - g) ?_ 0 ⟨by omega, rfl, fun q hq => absurd hq (Nat.not_lt_zero _)⟩
  rintro kr g x bf1 ⟨hg, rfl, hbf⟩ hs
  unfold b_LongTrainModel_judge_19
  refine q_le (a := 1068) (by (first | exact B31_s (by omega) (by omega) | exact B31_of _ | (constructor <;> omega))) (by (first | exact B31_s (by omega) (by omega) | exact B31_of _ | (constructor <;> omega))) (fun h1 => ?_) (fun h1 => ?_)
  · have eg : g = 1068 := by omega
    subst eg
    refine lg_LongTrainModel_judge_46 (G := Nat) (fun g x r => g ≤ 6 ∧ x = eI g ∧ ∀ q, q < g → r q = 0) (fun g => 6 - g) ?_ 0 ⟨by omega, rfl, fun q hq => absurd hq (Nat.not_lt_zero _)⟩
    rintro kr g x j1 ⟨hg6, rfl, hj1⟩ hs
    unfold b_LongTrainModel_judge_46
    refine q_le (a := 6) (by (first | exact B31_s (by omega) (by omega) | exact B31_of _ | (constructor <;> omega))) (by (first | exact B31_s (by omega) (by omega) | exact B31_of _ | (constructor <;> omega))) (fun h1 => ?_) (fun h1 => ?_)
    · have eg : g = 6 := by omega
      subst eg
      refine lg_LongTrainModel_judge_69 (G := Nat) (fun g x2 x3 i' r j' w' f' b' => (∀ q, q ≠ 0 → q ≠ 27 → q ≠ 28 → q ≠ 39 → q ≠ 40 → i' q = i q) ∧ ∃ σ', r = eF σ' ∧ Eqv τ σ' ∧ (∀ q, 977 ≤ q → σ' q = σ q) ∧ ((g = 0 ∧ 0 ≤ (jd τ P P.n 0 T 0 0).1 ∧ x2 = eI (jd τ P P.n 0 T 0 0).1 ∧ (∃ u : Nat, u ≤ P.n ∧ x3 = eI u) ∧ j' 0 = eI (jd τ P P.n 0 T 0 0).2.1 ∧ j' 1 = eI (jd τ P P.n 0 T 0 0).2.2.2.1 ∧ j' 2 = eI (jd τ P P.n 0 T 0 0).2.2.2.2 ∧ RT σ' (jd τ P P.n 0 T 0 0).2.2.1) ∨ ∃ (u m s : Nat) (T' : TS), g = P.n - u + 1 ∧ u ≤ P.n ∧ x2 = eI (-1) ∧ x3 = eI u ∧ j' 0 = eI 0 ∧ j' 1 = eI m ∧ j' 2 = eI s ∧ RT σ' T' ∧ TOk τ T' ∧ jd τ P (P.n - u) u T' m s = jd τ P P.n 0 T 0 0)) (fun g => g) ?_ (P.n + 1) ⟨fun q q0 _ _ _ _ => upd_n q0, σ, rfl, e, fun _ _ => rfl, Or.inr ⟨0, 0, 0, T, by omega, by omega, rfl, rfl, hj1 0 (by omega), hj1 1 (by omega), hj1 2 (by omega), R, K, by rw [Nat.sub_zero]⟩⟩
      rintro kr g x2 x3 i' r j' w' f' b' ⟨hi, σ', rfl, e', t', hd⟩ hs3
      have jw := jd_w τ P P.n 0 T 0 0
      have KJ : TOk τ (jd τ P P.n 0 T 0 0).2.2.1 := jd_ok O PK P.n 0 T 0 0 (by omega) K
      unfold b_LongTrainModel_judge_69
      rw [hbf 977 (by omega), RP'.n]
      have fin : j' 0 = eI (jd τ P P.n 0 T 0 0).2.1 → j' 1 = eI (jd τ P P.n 0 T 0 0).2.2.2.1 → j' 2 = eI (jd τ P P.n 0 T 0 0).2.2.2.2 → RT σ' (jd τ P P.n 0 T 0 0).2.2.1 → j_LongTrainModel_judge_146 i' bf1 (eF σ') j' w' f' b' (eI h) (eI (jd τ P P.n 0 T 0 0).1) Q := fun f0 f1 f2 R' => by
        unfold j_LongTrainModel_judge_146
        rw [eF_ap, R'.hd, eF_ap, R'.n, eF_ap, R'.v]
        have fin2 : ∀ σ2, Eqv τ σ2 → RP σ2 P → (h = 0 → EqA σ σ2) → (h = 1 → RT σ2 (jd τ P P.n 0 T 0 0).2.2.1) → Q (eI (jd τ P P.n 0 T 0 0).1) (upd i' 44 1) bf1 (eF σ2) (upd (upd (upd j' 3 (eI (jd τ P P.n 0 T 0 0).2.2.1.hd)) 4 (eI (jd τ P P.n 0 T 0 0).2.2.1.n)) 5 (eI (jd τ P P.n 0 T 0 0).2.2.1.v)) w' f' b' := fun σ2 e2 rp2 q0 q1 => by
          refine hq' _ bf1 σ2 _ w' f' b' (fun q hq => by rw [upd_n (by omega)]; exact hi q (by omega) (by omega) (by omega) (by omega) (by omega)) upd_s ?_ ?_ ?_ ?_ ?_ ?_ e2 rp2 q0 q1
          · rw [upd_n (by omega), upd_n (by omega), upd_n (by omega)]; exact f0
          · rw [upd_n (by omega), upd_n (by omega), upd_n (by omega)]; exact f1
          · rw [upd_n (by omega), upd_n (by omega), upd_n (by omega)]; exact f2
          · rw [upd_n (by omega), upd_n (by omega), upd_s]
          · rw [upd_n (by omega), upd_s]
          · rw [upd_s]
        refine lg_LongTrainModel_judge_195 (G := Nat) (fun g x3 r => g ≤ 1068 ∧ x3 = eI g ∧ ∃ σ2, r = eF σ2 ∧ ((h = 1 ∧ g = 0 ∧ σ2 = σ') ∨ (h = 0 ∧ (∀ q, q < g → σ2 q = σ q) ∧ ∀ q, g ≤ q → σ2 q = σ' q))) (fun g => 1068 - g) ?_ 0 ⟨by omega, rfl, σ', rfl, ?_⟩
        · rintro kr4 g4 x4 r4 ⟨hg4, rfl, σ2, rfl, hcase⟩ hs4
          unfold b_LongTrainModel_judge_195
          refine q_le (a := 1068) (by (first | exact B31_s (by omega) (by omega) | exact B31_of _ | (constructor <;> omega))) (by (first | exact B31_s (by omega) (by omega) | exact B31_of _ | (constructor <;> omega))) (fun h5 => ?_) (fun h5 => ?_)
          · have eg4 : g4 = 1068 := by omega
            subst eg4
            rcases hcase with ⟨_, hz, _⟩ | ⟨hz, hlow, hhigh⟩
            · omega
            · have eA : EqA σ σ2 := fun q hq => hlow q hq
              exact fin2 σ2 (eA.v e) (RP'.g (fun q _ hq => eA q hq) PK) (fun _ => eA) (fun h1 => by omega)
          · refine q_ne (b := 0) hh (by (first | exact B31_s (by omega) (by omega) | exact B31_of _ | (constructor <;> omega))) (fun h6 => ?_) (fun h6 => ?_)
            · rcases hcase with ⟨_, _, rfl⟩ | ⟨hz, _, _⟩
              · exact fin2 σ2 e' (RP'.g (fun q hq _ => t' q hq) PK) (fun h1 => absurd h1 h6) (fun _ => R')
              · exact absurd hz h6
            · rcases hcase with ⟨hz, _, _⟩ | ⟨_, hlow, hhigh⟩
              · omega
              · refine And.intro (eI_in (by omega) (by omega) (by omega)) ?_; refine And.intro (eI_in (by omega) (by omega) (by omega)) ?_; (try simp (disch := omega) only [eI_cl, Int.toNat_natCast])
                rw [hbf g4 (by omega)]
                (try simp only [eI_lit, eI_neg, eI_add, eI_sub, eI_mul, eF_ap, upd_eF])
                refine hs4 (g4 + 1) _ _ (by omega) ⟨by omega, by congr 1, _, rfl, Or.inr ⟨h6, fun q hq => ?_, fun q hq => ?_⟩⟩
                · by_cases hqe : q = g4
                  · subst hqe; rw [updI_s]
                  · rw [updI_n _ hqe]; exact hlow q (by omega)
                · rw [updI_n _ (by omega)]; exact hhigh q (by omega)
        · by_cases hz : h = 0
          · exact Or.inr ⟨hz, fun q hq => absurd hq (Nat.not_lt_zero _), fun _ _ => rfl⟩
          · exact Or.inl ⟨by omega, rfl, rfl⟩
      rcases hd with ⟨rfl, hpos, rfl, ⟨u, hu, rfl⟩, f0, f1, f2, R'⟩ | ⟨u, m, s, T', rfl, hu, rfl, rfl, f0, f1, f2, R', K', he⟩
      · refine q_le (by (first | exact B31_s (by omega) (by omega) | exact B31_of _ | (constructor <;> omega))) (by (first | exact B31_s (by omega) (by omega) | exact B31_of _ | (constructor <;> omega))) (fun _ => fin f0 f1 f2 R') (fun _ => ?_)
        exact q_le (a := 0) (by (first | exact B31_s (by omega) (by omega) | exact B31_of _ | (constructor <;> omega))) (by (first | exact B31_s (by omega) (by omega) | exact B31_of _ | (constructor <;> omega))) (fun _ => fin f0 f1 f2 R') (fun h => by omega)
      · refine q_le (by (first | exact B31_s (by omega) (by omega) | exact B31_of _ | (constructor <;> omega))) (by (first | exact B31_s (by omega) (by omega) | exact B31_of _ | (constructor <;> omega))) (fun hge => ?_) (fun hlt => ?_)
        · have eu : P.n - u = 0 := by omega
          rw [eu] at he
          have he' : (-1, 0, T', m, s) = jd τ P P.n 0 T 0 0 := he
          have := fin (by rw [f0, ← he']) (by rw [f1, ← he']) (by rw [f2, ← he']) (by rw [← he']; exact R')
          rw [← he'] at this
          rw [← he'] at fin
          exact fin f0 f1 f2 R'
        · refine q_le (a := 0) (by (first | exact B31_s (by omega) (by omega) | exact B31_of _ | (constructor <;> omega))) (by (first | exact B31_s (by omega) (by omega) | exact B31_of _ | (constructor <;> omega))) (fun h => by omega) (fun _ => ?_)
          have hwu := PK.w u (by omega)
          have i1 : (978 + 3 * (u : Int)).toNat = 978 + 3 * u := by omega
          have i2 : (978 + 3 * (u : Int) + 1).toNat = 978 + 3 * u + 1 := by omega
          have i3 : (978 + 3 * (u : Int) + 2).toNat = 978 + 3 * u + 2 := by omega
          (try simp only [eI_lit, eI_neg, eI_add, eI_sub, eI_mul, eF_ap, upd_eF]); refine And.intro (eI_in (by omega) (by omega) (by omega)) ?_; refine And.intro (eI_in (by omega) (by omega) (by omega)) ?_; refine And.intro (eI_in (by omega) (by omega) (by omega)) ?_; (try simp (disch := omega) only [eI_cl, Int.toNat_natCast])
          rw [i1, i2, i3, hbf _ (by omega), hbf _ (by omega), hbf _ (by omega), RP'.w u (by omega), RP'.a u (by omega), RP'.b u (by omega)]
          have hdb := dr_bd τ (P.w u) (P.a u) (P.b u) T'
          have eu : P.n - u = (P.n - (u + 1)) + 1 := by omega
          rw [eu, jd] at he
          refine M_does O e' R' K' hwu (PK.g u (by omega)) (PK.h u (by omega)) (fun i2' σ2 w2 f2' b2 j2 hi2 e2 t2 R2 g1 g2 => ?_)
          rw [upd_s]
          have hi3 : ∀ q, q ≠ 0 → q ≠ 27 → q ≠ 28 → q ≠ 39 → q ≠ 40 → i2' q = i q := fun q a0 a1 a2 a3 a4 => by rw [hi2 q a1 a2 a3 a4]; exact hi q a0 a1 a2 a3 a4
          have t3 : ∀ q, 977 ≤ q → σ2 q = σ q := fun q hq => by rw [t2 q hq, t' q hq]
          have k1 : upd j2 0 (eI (dr τ (P.w u) (P.a u) (P.b u) T').1) 1 = eI ((m + (dr τ (P.w u) (P.a u) (P.b u) T').2.2 : Nat) : Int) := by
            rw [upd_n (by omega), g1, f1]; (try simp only [eI_lit, eI_neg, eI_add, eI_sub, eI_mul, eF_ap, upd_eF]); congr 1
          have k2 : upd j2 0 (eI (dr τ (P.w u) (P.a u) (P.b u) T').1) 2 = eI ((s + (if P.w u = 1 then (dr τ (P.w u) (P.a u) (P.b u) T').2.2 else 0) : Nat) : Int) := by
            rw [upd_n (by omega), g2, f2]; (try simp only [eI_lit, eI_neg, eI_add, eI_sub, eI_mul, eF_ap, upd_eF]); congr 1
          refine q_le (b := 0) (by (first | exact B31_s (by omega) (by omega) | exact B31_of _ | (constructor <;> omega))) (by (first | exact B31_s (by omega) (by omega) | exact B31_of _ | (constructor <;> omega))) (fun hz => ?_) (fun hz => ?_)
          · have hz0 : (dr τ (P.w u) (P.a u) (P.b u) T').1 = 0 := by omega
            rw [if_pos hz0] at he
            have ha : TOk τ (dr τ (P.w u) (P.a u) (P.b u) T').2.1 := by
              have := jd_ok O PK 1 u T' 0 0 (by omega) K'
              unfold jd at this
              rw [if_pos hz0] at this
              exact this
            refine hs3 (P.n - (u + 1) + 1) _ _ _ _ _ _ _ _ (by omega) ⟨hi3, σ2, rfl, e2, t3, Or.inr ⟨u + 1, _, _, _, rfl, by omega, rfl, by congr 1, ?_, k1, k2, R2, ha, he⟩⟩
            rw [upd_s, hz0]
          · rw [if_neg (by omega)] at he
            refine hs3 0 _ _ _ _ _ _ _ _ (by omega) ⟨hi3, σ2, rfl, e2, t3, Or.inl ⟨rfl, ?_, ?_, ⟨u + 1, by omega, by congr 1⟩, ?_, ?_, ?_, ?_⟩⟩
            · rw [← he]; show (0 : Int) ≤ u; omega
            · rw [← he]
            · rw [upd_s, ← he]
            · rw [k1, ← he]
            · rw [k2, ← he]
            · rw [← he]; exact R2
    · refine And.intro (eI_in (by omega) (by omega) (by omega)) ?_; (try simp (disch := omega) only [eI_cl, Int.toNat_natCast])
      (try simp only [eI_lit, eI_neg, eI_add, eI_sub, eI_mul, eF_ap, upd_eF])
      refine hs (g + 1) _ _ (by omega) ⟨by omega, by congr 1, fun q hq => ?_⟩
      by_cases hqe : q = g
      · subst hqe; rw [upd_s]; rfl
      · rw [upd_n hqe]; exact hj1 q (by omega)
  · refine And.intro (eI_in (by omega) (by omega) (by omega)) ?_; refine And.intro (eI_in (by omega) (by omega) (by omega)) ?_; (try simp (disch := omega) only [eI_cl, Int.toNat_natCast])
    (try simp only [eI_lit, eI_neg, eI_add, eI_sub, eI_mul, eF_ap, upd_eF])
    refine hs (g + 1) _ _ (by omega) ⟨by omega, by congr 1, fun q hq => ?_⟩
    by_cases hqe : q = g
    · subst hqe; rw [upd_s]
    · rw [upd_n hqe]; exact hbf q (by omega)
