/-! the train that is there now -/
def Eqv (τ σ : Nat → Int) : Prop := ∀ j, j < 483 → σ j = τ j
theorem LG_c {τ σ : Nat → Int} (h : Eqv τ σ) {k : Int} (h0 : 0 ≤ k) (h1 : k ≤ 5) : LG σ k = LG τ k := h _ (by omega)
theorem WT_c {τ σ : Nat → Int} (h : Eqv τ σ) {k : Int} (h0 : 0 ≤ k) (h1 : k ≤ 5) : WT σ k = WT τ k := h _ (by omega)
theorem ST_c {τ σ : Nat → Int} (h : Eqv τ σ) {k : Int} (h0 : 0 ≤ k) (h1 : k ≤ 5) : ST σ k = ST τ k := h _ (by omega)
theorem AT_c {τ σ : Nat → Int} (h : Eqv τ σ) {k : Int} (h0 : 0 ≤ k) (h1 : k ≤ 9) : AT σ k = AT τ k := h _ (by omega)
theorem HL_c {τ σ : Nat → Int} (h : Eqv τ σ) {k : Int} (h0 : 0 ≤ k) (h1 : k ≤ 9) : HL σ k = HL τ k := h _ (by omega)
theorem AD_c {τ σ : Nat → Int} (h : Eqv τ σ) {k : Int} (h0 : 0 ≤ k) (h1 : k ≤ 9) : AD σ k = AD τ k := by
  unfold AD
  rw [h _ (by omega)]
theorem GR_c {τ σ : Nat → Int} (h : Eqv τ σ) {u : Int} (h1 : u < 400) : GR σ u = GR τ u := by
  unfold GR
  split
  · rfl
  · exact h _ (by omega)
theorem LOk.c {τ σ : Nat → Int} (h : Eqv τ σ) (O : LOk τ) : LOk σ := by
  have hk := O.kc
  have hh := O.hc
  have hl := O.lc
  have hf := O.fc
  have e : ∀ j, j < 483 → σ j = τ j := h
  refine ⟨by rw [e 0 (by omega)]; exact O.u, by rw [e 1 (by omega)]; exact O.hc, by rw [e 2 (by omega)]; exact O.lc, by rw [e 3 (by omega)]; exact O.kc, by rw [e 4 (by omega)]; exact O.pull, by rw [e 5 (by omega)]; exact O.eng, by rw [e 6 (by omega)]; exact O.rub, by rw [e 7 (by omega)]; exact O.sand, by rw [e 8 (by omega)]; exact O.wear, by rw [e 9 (by omega)]; exact O.walk, by rw [e 10 (by omega)]; exact O.fc, fun j hj => by rw [e _ (by omega)]; exact O.gr j hj, fun k hk' => ?_, fun k hk' => ?_, fun k hk' => ?_, fun j k hjk hk' => ?_, fun k hk' => ?_, fun k k0 k1 => ?_, fun i hi => ?_⟩
  · rw [e 1 (by omega)] at hk'; rw [AT_c h (by omega) (by omega), e 0 (by omega)]; exact O.at_ k hk'
  · rw [e 1 (by omega)] at hk'; rw [HL_c h (by omega) (by omega)]; exact O.hl k hk'
  · rw [e 1 (by omega)] at hk'; rw [AD_c h (by omega) (by omega), e 3 (by omega)]; exact O.ad k hk'
  · rw [e 1 (by omega)] at hk'; rw [AT_c h (by omega) (by omega), AT_c h (by omega) (by omega)]; exact O.asc j k hjk hk'
  · rw [e 2 (by omega)] at hk'; rw [e (441 + 2 * k) (by omega), e (441 + 2 * k + 1) (by omega), e 0 (by omega)]; exact O.lp k hk'
  · rw [e 3 (by omega)] at k1; rw [LG_c h k0 (by omega), WT_c h k0 (by omega), ST_c h k0 (by omega)]; exact O.kd k k0 k1
  · rw [e 10 (by omega)] at hi; rw [e (475 + i) (by omega), e 3 (by omega)]; exact O.tr i hi
theorem KOk.c {τ σ : Nat → Int} (h : Eqv τ σ) {k : Nat → Int} {n : Nat} (hk : KOk τ k n) : KOk σ k n := fun j hj => by rw [h 3 (by omega)]; exact hk j hj
theorem fo_c {τ σ : Nat → Int} (h : Eqv τ σ) (O : LOk τ) {k : Nat → Int} {n : Nat} (hk : KOk τ k n) (hd : Int) {i : Nat} (hi : i ≤ n) : fo σ k hd i = fo τ k hd i := by
  have hkc := O.kc
  unfold fo
  rw [sm_congr (fun j hj => by have := hk j (by omega); exact LG_c h this.1 (by omega))]
theorem dg_c {τ σ : Nat → Int} (h : Eqv τ σ) (O : LOk τ) {k : Nat → Int} {n : Nat} (hk : KOk τ k n) {hd : Int} (hh : hd ≤ 400) {i : Nat} (hi : i < n) : dg σ k hd i = dg τ k hd i := by
  have hkc := O.kc
  have h1 := hk i hi
  have h3 := sm_lg O hk (i := i) (by omega)
  unfold dg
  rw [fo_c h O hk hd (by omega), WT_c h h1.1 (by omega), GR_c h (by unfold fo; omega), h 6 (by omega)]
theorem bre_c {τ σ : Nat → Int} (h : Eqv τ σ) (O : LOk τ) {k : Nat → Int} {n : Nat} (hk : KOk τ k n) {hd : Int} (hh : hd ≤ 400) {i : Nat} (hi : i ≤ n) : br σ k n hd i = br τ k n hd i := by
  unfold br
  rw [sm_congr (fun j hj => dg_c h O hk hh hj), sm_congr (n := i) (fun j hj => dg_c h O hk hh (by omega))]
theorem ld_c {τ σ : Nat → Int} (h : Eqv τ σ) (O : LOk τ) {k : Nat → Int} {n : Nat} (hk : KOk τ k n) {hd : Int} (hh : hd < 400) : ld σ k n hd = ld τ k n hd := by
  unfold ld
  rw [sm_congr (fun j hj => dg_c h O hk (by omega) hj), h 5 (by omega), h 0 (by omega), h 6 (by omega), GR_c h hh]
abbrev TS := Int × Nat × (Nat → Int) × (Nat → Int) × Int × List (Int × Int) × Nat × (Nat → Nat) × (Nat → Int) × (Nat → Nat → Int)
abbrev TS.hd (T : TS) : Int := T.1
abbrev TS.n (T : TS) : Nat := T.2.1
abbrev TS.k (T : TS) : Nat → Int := T.2.2.1
abbrev TS.w (T : TS) : Nat → Int := T.2.2.2.1
abbrev TS.run (T : TS) : Int := T.2.2.2.2.1
abbrev TS.hp (T : TS) : List (Int × Int) := T.2.2.2.2.2.1
abbrev TS.v (T : TS) : Nat := T.2.2.2.2.2.2.1
abbrev TS.vs (T : TS) : Nat → Nat := T.2.2.2.2.2.2.2.1
abbrev TS.vu (T : TS) : Nat → Int := T.2.2.2.2.2.2.2.2.1
abbrev TS.vk (T : TS) : Nat → Nat → Int := T.2.2.2.2.2.2.2.2.2
def pS : List (Int × Int) → Int → Int
  | [], _ => 0
  | p :: l, i => (if p.1 = i then p.2 else 0) + pS l i
def cS : List (Int × Int) → Int → Int
  | [], _ => 0
  | p :: l, i => (if p.1 = i then 1 else 0) + cS l i
def gS : List (Int × Int) → Int → Int
  | [], _ => 0
  | p :: l, j => (if j ≤ p.1 then p.2 else 0) + gS l j
def tS : List (Int × Int) → Int
  | [] => 0
  | p :: l => p.2 + tS l
theorem gS_app (l : List (Int × Int)) (p : Int × Int) (j : Int) : gS (l ++ [p]) j = gS l j + (if j ≤ p.1 then p.2 else 0) := by
  induction l with
  | nil => simp [gS]
  | cons q l ih => simp only [List.cons_append, gS, ih]; omega
theorem tS_app (l : List (Int × Int)) (p : Int × Int) : tS (l ++ [p]) = tS l + p.2 := by
  induction l with
  | nil => simp [tS]
  | cons q l ih => simp only [List.cons_append, tS, ih]; omega
theorem sm_add (f g : Nat → Int) : ∀ n, sm (fun i => f i + g i) n = sm f n + sm g n
  | 0 => by simp [sm]
  | n + 1 => by simp only [sm, sm_add f g n]; omega
theorem sm_sub (f g : Nat → Int) : ∀ n, sm (fun i => f i - g i) n = sm f n - sm g n
  | 0 => by simp [sm]
  | n + 1 => by simp only [sm, sm_sub f g n]; omega
theorem sm_pt {a v : Int} (ha : 0 ≤ a) : ∀ n : Nat, sm (fun i => if a = (i : Int) then v else 0) n = if a < n then v else 0
  | 0 => by rw [if_neg (by omega)]; rfl
  | n + 1 => by
    rw [sm, sm_pt ha n]
    by_cases h : a = n
    · rw [if_pos h, if_neg (by omega), if_pos (by omega)]; omega
    · rw [if_neg h]
      by_cases h2 : a < n
      · rw [if_pos h2, if_pos (by omega)]; omega
      · rw [if_neg h2, if_neg (by omega)]; omega
theorem sm_0 : ∀ n, sm (fun _ => (0 : Int)) n = 0
  | 0 => rfl
  | n + 1 => by rw [sm, sm_0 n]; omega
theorem sm_pS {l : List (Int × Int)} (hl : ∀ p, p ∈ l → 0 ≤ p.1) (j : Nat) : sm (fun i => pS l i) j + gS l j = tS l := by
  induction l with
  | nil => simp only [pS, gS, tS]; rw [sm_0]; omega
  | cons p l ih =>
    have h1 := ih (fun q hq => hl q (List.mem_cons_of_mem _ hq))
    have h2 := hl p (List.mem_cons_self ..)
    simp only [pS, gS, tS]
    rw [sm_add, sm_pt h2]
    by_cases h : p.1 < j
    · rw [if_pos h, if_neg (by omega)]; omega
    · rw [if_neg h, if_pos (by omega)]; omega
theorem gS_n {l : List (Int × Int)} {n : Int} (hl : ∀ p, p ∈ l → p.1 < n) : gS l n = 0 := by
  induction l with
  | nil => rfl
  | cons p l ih =>
    have h1 := ih (fun q hq => hl q (List.mem_cons_of_mem _ hq))
    have h2 := hl p (List.mem_cons_self ..)
    simp only [gS]
    rw [if_neg (by omega)]; omega
theorem sm_cS {l : List (Int × Int)} {n : Nat} (hl : ∀ p, p ∈ l → 0 ≤ p.1 ∧ p.1 < n) : sm (fun i => cS l i) n = l.length := by
  induction l with
  | nil => simp only [cS]; rw [sm_0]; rfl
  | cons p l ih =>
    have h1 := ih (fun q hq => hl q (List.mem_cons_of_mem _ hq))
    have h2 := hl p (List.mem_cons_self ..)
    simp only [cS]
    rw [sm_add, sm_pt h2.1, if_pos h2.2, h1, List.length_cons]
    omega
def TX (τ : Nat → Int) (T : TS) : RW := ⟨T.n, T.k, fun i => ST τ (T.k i), T.w, fun i => pS T.hp i, fun i => cS T.hp i⟩
def tn (f : Nat → Nat) : Nat → Nat
  | 0 => 0
  | n + 1 => tn f n + f n
abbrev RT (σ : Nat → Int) (T : TS) : Prop :=
  (σ 483 = T.hd) ∧
  (σ 484 = T.n) ∧
  (σ 485 = T.run) ∧
  (σ 486 = T.hp.length) ∧
  (∀ (q : Nat) (p : Int × Int), T.hp[q]? = some p → σ (487 + q) = p.1 ∧ σ (491 + q) = p.2) ∧
  (∀ i, i < T.n → σ (495 + i) = T.k i) ∧
  (∀ i, i < T.n → σ (515 + i) = T.w i) ∧
  (σ 536 = T.v) ∧
  (∀ j, j < T.v → σ (537 + 22 * j) = T.vs j) ∧
  (∀ j, j < T.v → σ (537 + 22 * j + 1) = T.vu j) ∧
  (∀ j, j < T.v → ∀ i, i < T.vs j → σ (537 + 22 * j + 2 + i) = T.vk j i) ∧
  (∀ k : Nat, (k : Int) < σ 1 → T.hd < AT σ k → bitN (eI (σ 535)) k = false)
theorem RT.hd {σ : Nat → Int} {T : TS} (h : RT σ T) : σ 483 = T.hd := h.1
theorem RT.n {σ : Nat → Int} {T : TS} (h : RT σ T) : σ 484 = T.n := h.2.1
theorem RT.run {σ : Nat → Int} {T : TS} (h : RT σ T) : σ 485 = T.run := h.2.2.1
theorem RT.m {σ : Nat → Int} {T : TS} (h : RT σ T) : σ 486 = T.hp.length := h.2.2.2.1
theorem RT.ha {σ : Nat → Int} {T : TS} (h : RT σ T) : ∀ (q : Nat) (p : Int × Int), T.hp[q]? = some p → σ (487 + q) = p.1 ∧ σ (491 + q) = p.2 := h.2.2.2.2.1
theorem RT.k {σ : Nat → Int} {T : TS} (h : RT σ T) : ∀ i, i < T.n → σ (495 + i) = T.k i := h.2.2.2.2.2.1
theorem RT.w {σ : Nat → Int} {T : TS} (h : RT σ T) : ∀ i, i < T.n → σ (515 + i) = T.w i := h.2.2.2.2.2.2.1
theorem RT.v {σ : Nat → Int} {T : TS} (h : RT σ T) : σ 536 = T.v := h.2.2.2.2.2.2.2.1
theorem RT.vs {σ : Nat → Int} {T : TS} (h : RT σ T) : ∀ j, j < T.v → σ (537 + 22 * j) = T.vs j := h.2.2.2.2.2.2.2.2.1
theorem RT.vu {σ : Nat → Int} {T : TS} (h : RT σ T) : ∀ j, j < T.v → σ (537 + 22 * j + 1) = T.vu j := h.2.2.2.2.2.2.2.2.2.1
theorem RT.vk {σ : Nat → Int} {T : TS} (h : RT σ T) : ∀ j, j < T.v → ∀ i, i < T.vs j → σ (537 + 22 * j + 2 + i) = T.vk j i := h.2.2.2.2.2.2.2.2.2.2.1
theorem RT.came {σ : Nat → Int} {T : TS} (h : RT σ T) : ∀ k : Nat, (k : Int) < σ 1 → T.hd < AT σ k → bitN (eI (σ 535)) k = false := h.2.2.2.2.2.2.2.2.2.2.2
abbrev TOk (τ : Nat → Int) (T : TS) : Prop :=
  (0 ≤ T.hd) ∧
  (T.hd < τ 0 ∨ T.hd = 0) ∧
  (KOk τ T.k T.n) ∧
  (T.n + tn T.vs T.v ≤ 8 + hb τ T.hd) ∧
  (∀ j, j < T.v → 1 ≤ T.vs j) ∧
  (∀ j, j < T.v → ∀ i, i < T.vs j → 0 ≤ T.vk j i ∧ T.vk j i < τ 3) ∧
  (∀ j, j < T.v → -1000 ≤ T.vu j ∧ T.vu j < τ 0) ∧
  (T.hp.length ≤ 4) ∧
  (∀ p, p ∈ T.hp → 0 ≤ p.1 ∧ p.1 < T.n)
theorem TOk.hd0 {τ : Nat → Int} {T : TS} (h : TOk τ T) : 0 ≤ T.hd := h.1
theorem TOk.hd1 {τ : Nat → Int} {T : TS} (h : TOk τ T) : T.hd < τ 0 ∨ T.hd = 0 := h.2.1
theorem TOk.k {τ : Nat → Int} {T : TS} (h : TOk τ T) : KOk τ T.k T.n := h.2.2.1
theorem TOk.sz {τ : Nat → Int} {T : TS} (h : TOk τ T) : T.n + tn T.vs T.v ≤ 8 + hb τ T.hd := h.2.2.2.1
theorem TOk.vs1 {τ : Nat → Int} {T : TS} (h : TOk τ T) : ∀ j, j < T.v → 1 ≤ T.vs j := h.2.2.2.2.1
theorem TOk.vk {τ : Nat → Int} {T : TS} (h : TOk τ T) : ∀ j, j < T.v → ∀ i, i < T.vs j → 0 ≤ T.vk j i ∧ T.vk j i < τ 3 := h.2.2.2.2.2.1
theorem TOk.vu {τ : Nat → Int} {T : TS} (h : TOk τ T) : ∀ j, j < T.v → -1000 ≤ T.vu j ∧ T.vu j < τ 0 := h.2.2.2.2.2.2.1
theorem TOk.hp4 {τ : Nat → Int} {T : TS} (h : TOk τ T) : T.hp.length ≤ 4 := h.2.2.2.2.2.2.2.1
theorem TOk.hpa {τ : Nat → Int} {T : TS} (h : TOk τ T) : ∀ p, p ∈ T.hp → 0 ≤ p.1 ∧ p.1 < T.n := h.2.2.2.2.2.2.2.2
theorem TOk.n18 {τ : Nat → Int} (O : LOk τ) {T : TS} (h : TOk τ T) : T.n + tn T.vs T.v ≤ 18 := by
  have h1 := h.sz
  have h2 := hb_le O T.hd
  have h3 := O.hc
  omega
theorem tn_ge {f : Nat → Nat} : ∀ {n : Nat}, (∀ j, j < n → 1 ≤ f j) → n ≤ tn f n
  | 0, _ => Nat.le_refl _
  | n + 1, h => by
    have h1 := tn_ge (n := n) (fun j hj => h j (by omega))
    have h2 := h n (by omega)
    rw [tn]; omega
theorem tn_mono {f : Nat → Nat} : ∀ {m n : Nat}, m < n → tn f m + f m ≤ tn f n
  | m, 0, h => absurd h (Nat.not_lt_zero _)
  | m, n + 1, h => by
    by_cases e : m = n
    · subst e; exact Nat.le_refl _
    · have := tn_mono (f := f) (m := m) (n := n) (by omega)
      rw [tn]; omega
theorem brp_TX {τ : Nat → Int} {T : TS} (hl : ∀ p, p ∈ T.hp → 0 ≤ p.1 ∧ p.1 < T.n) (hd : Int) (j : Nat) : brp τ (TX τ T) hd j = br τ T.k T.n hd j - gS T.hp j := by
  show sm (fun i => dg τ T.k hd i - pS T.hp i) T.n - sm (fun i => dg τ T.k hd i - pS T.hp i) j = _
  rw [sm_sub, sm_sub]
  have h1 := sm_pS (l := T.hp) (fun p hp => (hl p hp).1) j
  have h2 := sm_pS (l := T.hp) (fun p hp => (hl p hp).1) T.n
  have h3 := gS_n (l := T.hp) (n := T.n) (fun p hp => (hl p hp).2)
  unfold br
  show sm (dg τ T.k hd) T.n - _ - (sm (dg τ T.k hd) j - _) = _
  omega
theorem ldp_TX {τ : Nat → Int} {T : TS} (hl : ∀ p, p ∈ T.hp → 0 ≤ p.1 ∧ p.1 < T.n) (hd : Int) : ldp τ (TX τ T) hd = ld τ T.k T.n hd - tS T.hp := by
  show sm (fun i => dg τ T.k hd i - pS T.hp i) T.n + _ = _
  rw [sm_sub]
  have h2 := sm_pS (l := T.hp) (fun p hp => (hl p hp).1) T.n
  have h3 := gS_n (l := T.hp) (n := T.n) (fun p hp => (hl p hp).2)
  unfold ld
  show sm (dg τ T.k hd) T.n - _ + _ = _
  omega
theorem M_nowStands {τ σ : Nat → Int} (O : LOk τ) (e : Eqv τ σ) {T : TS} (R : RT σ T) (K : TOk τ T) {i w f b : F32} {h : Int} (h0 : 0 ≤ h) (h1 : h < 400) {Q : F32 → F32 → F32 → F32 → Prop} (hq : ∀ i' w' f' b', (∀ q, q ≠ 27 → q ≠ 28 → i' q = i q) → i' 28 = eI (ldp τ (TX τ T) h) → (∀ j, j < T.n → w' j = eI (T.k j)) → (∀ j, j < T.n → f' j = eI (fo τ T.k h j)) → (∀ j, j < T.n → b' j = eI (brp τ (TX τ T) h j)) → Q i' w' f' b') : w_LongTrainModel_nowStands i (eF σ) w f b (eI h) Q := by
  have n18 := K.n18 O
  have hp4 := K.hp4
  unfold w_LongTrainModel_nowStands
  (try simp only [eI_lit, eI_neg, eI_add, eI_sub, eI_mul, eF_ap, upd_eF])
  refine lg_LongTrainModel_nowStands_14 (G := Nat) (fun g x2 w => g ≤ T.n ∧ x2 = eI g ∧ ∀ j, j < g → w j = eI (T.k j)) (fun g => T.n - g) ?_ 0 ⟨by omega, rfl, by intro j hj; omega⟩
  rintro kr g x2 w ⟨hg, rfl, hw⟩ hs
  unfold b_LongTrainModel_nowStands_14
  rw [upd_s, R.n]
  (try simp only [eI_lit, eI_neg, eI_add, eI_sub, eI_mul, eF_ap, upd_eF])
  refine q_le (by (first | exact B31_s (by omega) (by omega) | exact B31_of _ | (constructor <;> omega))) (by (first | exact B31_s (by omega) (by omega) | exact B31_of _ | (constructor <;> omega))) (fun h2 => ?_) (fun h2 => ?_)
  · have eg : g = T.n := by omega
    subst eg
    refine M_stands (O.c e) (n := T.n) (k := T.k) (by omega) upd_s hw (K.k.c e) h0 h1 (fun f' b' hf hb => ?_)
    refine lg_LongTrainModel_nowStands_51 (G := Nat) (fun g x2 i' b' => g ≤ T.hp.length ∧ x2 = eI g ∧ (∀ q, q ≠ 27 → q ≠ 28 → i' q = i q) ∧ i' 28 = eI (ld τ T.k T.n h - tS (T.hp.take g)) ∧ ∀ j, j < T.n → b' j = eI (br τ T.k T.n h j - gS (T.hp.take g) j)) (fun g => T.hp.length - g) ?_ 0 ⟨by omega, rfl, fun q h27 h28 => by rw [upd_n h28, upd_n h27], by rw [upd_s, ld_c e O K.k h1]; congr 1; simp [tS], fun j hj => by rw [hb j hj, bre_c e O K.k (by omega) (by omega)]; congr 1; simp [gS]⟩
    rintro kr g x2 i' b' ⟨hg, rfl, hi, hl, hb'⟩ hs
    unfold b_LongTrainModel_nowStands_51
    (try simp only [eI_lit, eI_neg, eI_add, eI_sub, eI_mul, eF_ap, upd_eF])
    rw [R.m]
    refine q_le (by (first | exact B31_s (by omega) (by omega) | exact B31_of _ | (constructor <;> omega))) (by (first | exact B31_s (by omega) (by omega) | exact B31_of _ | (constructor <;> omega))) (fun h3 => ?_) (fun h3 => ?_)
    · have eg : T.hp.take g = T.hp := List.take_of_length_le (by omega)
      rw [eg] at hl hb'
      refine hq _ _ _ _ hi (by rw [hl, ldp_TX K.hpa]) hw (fun j hj => by rw [hf j hj, fo_c e O K.k h (by omega)]) (fun j hj => by rw [hb' j hj, brp_TX K.hpa])
    · have hlt : g < T.hp.length := by omega
      have hgp : T.hp[g]? = some T.hp[g] := List.getElem?_eq_getElem hlt
      have hap := R.ha g _ hgp
      have hmem := K.hpa T.hp[g] (List.getElem_mem hlt)
      have e1 : (487 + (g : Int)).toNat = 487 + g := by omega
      have e2 : (491 + (g : Int)).toNat = 491 + g := by omega
      refine And.intro (eI_in (by omega) (by omega) (by omega)) ?_; refine And.intro (eI_in (by omega) (by omega) (by omega)) ?_; (try simp (disch := omega) only [eI_cl, Int.toNat_natCast])
      rw [e1, e2, hap.1, hap.2]
      have ea : T.hp[g].1 = ((T.hp[g].1.toNat : Nat) : Int) := by omega
      have etk : T.hp.take (g + 1) = T.hp.take g ++ [T.hp[g]] := by rw [List.take_add_one, hgp]; rfl
      rw [ea]
      refine M_helps (n := T.n) hb' (by omega) (by omega) (fun b3 hb3 => ?_)
      rw [hl]
      (try simp only [eI_lit, eI_neg, eI_add, eI_sub, eI_mul, eF_ap, upd_eF])
      refine hs (g + 1) _ _ _ (by omega) ⟨by omega, by congr 1, fun q h27 h28 => by rw [upd_n h28]; exact hi q h27 h28, ?_, fun j hj => ?_⟩
      · rw [upd_s, etk, tS_app]; congr 1; omega
      · rw [hb3 j hj, etk, gS_app]
        congr 1
        by_cases hj2 : j ≤ T.hp[g].1.toNat
        · rw [if_pos hj2, if_pos (by omega)]; omega
        · rw [if_neg hj2, if_neg (by omega)]; omega
  · have e1 : (495 + (g : Int)).toNat = 495 + g := by omega
    refine And.intro (eI_in (by omega) (by omega) (by omega)) ?_; refine And.intro (eI_in (by omega) (by omega) (by omega)) ?_; (try simp (disch := omega) only [eI_cl, Int.toNat_natCast])
    refine hs (g + 1) _ _ (by omega) ⟨by omega, by congr 1, fun j hj => ?_⟩
    by_cases hjg : j = g
    · subst hjg; rw [upd_s, e1, R.k _ (by omega)]
    · rw [upd_n hjg]; exact hw j (by omega)
theorem Kp.of2 {i i' : F32} (h : ∀ q, q ≠ 27 → q ≠ 28 → i' q = i q) : Kp i i' := fun k hk => h k (by omega) (by omega)
/-! train, wagon -/
def trainS (τ : Nat → Int) (T : TS) (n : Int32) : Int32 := if n = 0 then eI T.hd else if n = 1 then eI T.n else if n = 2 then eI T.run else if n = 3 then eI (1 + sm (fun j => LG τ (T.k j)) T.n) else if n = 4 then eI (τ 5 + sm (fun j => WT τ (T.k j)) T.n) else if n = 5 then eI (ldp τ (TX τ T) T.hd) else if n = 6 then eI T.hp.length else if n = 7 then eI T.v else -1
theorem M_unitsOf {τ σ : Nat → Int} (O : LOk τ) (e : Eqv τ σ) {f n : Nat} {k : Nat → Int} (hf : f + n ≤ 1068) (hk : KOk τ k n) (hs : ∀ i, i < n → σ (f + i) = k i) {Q : Int32 → Prop} (hq : Q (eI (sm (fun j => LG τ (k j)) n))) : w_LongTrainModel_unitsOf (eF σ) (eI f) (eI n) Q := by
  have hkc := O.kc
  unfold w_LongTrainModel_unitsOf
  refine lg_LongTrainModel_unitsOf_5 (G := Nat) (fun g x3 x4 => g ≤ n ∧ x3 = eI (sm (fun j => LG τ (k j)) g) ∧ x4 = eI g) (fun g => n - g) ?_ 0 ⟨by omega, rfl, rfl⟩
  rintro kr g x3 x4 ⟨hg, rfl, rfl⟩ hst
  unfold b_LongTrainModel_unitsOf_5
  refine q_le (by (first | exact B31_s (by omega) (by omega) | exact B31_of _ | (constructor <;> omega))) (by (first | exact B31_s (by omega) (by omega) | exact B31_of _ | (constructor <;> omega))) (fun h => ?_) (fun h => ?_)
  · have eg : g = n := by omega
    subst eg; exact hq
  · have hkg := hk g (by omega)
    (try simp only [eI_lit, eI_neg, eI_add, eI_sub, eI_mul, eF_ap, upd_eF])
    refine And.intro (eI_in (by omega) (by omega) (by omega)) ?_; (try simp (disch := omega) only [eI_cl, Int.toNat_natCast])
    have e1 : ((f : Int) + g).toNat = f + g := by omega
    rw [e1, hs g (by omega)]
    refine M_longOf hkg.1 (by omega) ?_
    rw [LG_c e hkg.1 (by omega)]
    (try simp only [eI_lit, eI_neg, eI_add, eI_sub, eI_mul, eF_ap, upd_eF])
    exact hst (g + 1) _ _ (by omega) ⟨by omega, rfl, by congr 1⟩
theorem TOk.hd4 {τ : Nat → Int} (O : LOk τ) {T : TS} (K : TOk τ T) : T.hd < 400 := by
  have := K.hd1
  have := O.u
  omega
theorem M_train {τ σ : Nat → Int} (O : LOk τ) (e : Eqv τ σ) {T : TS} (R : RT σ T) (K : TOk τ T) {i w f b : F32} {n : Int32} {Q : Int32 → F32 → F32 → F32 → F32 → Prop} (hq : ∀ i' w' f' b', KP i i' → Q (trainS τ T n) i' w' f' b') : w_LongTrainModel_train i (eF σ) w f b n Q := by
  have n18 := K.n18 O
  have hkc := O.kc
  unfold w_LongTrainModel_train
  refine lg_LongTrainModel_train_14 (G := Nat) (fun g x2 x3 => g ≤ T.n ∧ x2 = eI (τ 5 + sm (fun j => WT τ (T.k j)) g) ∧ x3 = eI g) (fun g => T.n - g) ?_ 0 ⟨by omega, by rw [eF_ap, e 5 (by omega)]; congr 1; simp [sm], rfl⟩
  rintro kr g x2 x3 ⟨hg, rfl, rfl⟩ hs
  unfold b_LongTrainModel_train_14
  rw [eF_ap, R.n]
  refine q_le (by (first | exact B31_s (by omega) (by omega) | exact B31_of _ | (constructor <;> omega))) (by (first | exact B31_s (by omega) (by omega) | exact B31_of _ | (constructor <;> omega))) (fun h => ?_) (fun h => ?_)
  · have eg : g = T.n := by omega
    subst eg
    rw [eF_ap, R.hd]
    refine M_nowStands O e R K K.hd0 (K.hd4 O) (fun i' w' f' b' hi hl hw hf hb => ?_)
    have hq' := hq i' w' f' b' (Kp.of2 hi).P
    unfold trainS at hq'
    rw [hl, eF_ap, R.run, eF_ap, R.m, eF_ap, R.v]
    refine (br_if (A := fun z => Q z i' w' f' b') hq').imp id (fun g h0 => (br_if (A := fun z => Q z i' w' f' b') (g h0)).imp id (fun g h0 => (br_if (A := fun z => Q z i' w' f' b') (g h0)).imp id (fun g h0 => (br_if (A := fun z => Q z i' w' f' b') (g h0)).imp (fun g2 h3 => ?_) (fun g h0 => (br_if (A := fun z => Q z i' w' f' b') (g h0)).imp id (fun g h0 => (br_if (A := fun z => Q z i' w' f' b') (g h0)).imp id (fun g h0 => (br_if (A := fun z => Q z i' w' f' b') (g h0)).imp id (fun g h0 => (br_if (A := fun z => Q z i' w' f' b') (g h0)))))))))
    refine M_unitsOf (f := 495) (n := T.n) (k := T.k) O e (by omega) K.k R.k ?_
    (try simp only [eI_lit, eI_neg, eI_add, eI_sub, eI_mul, eF_ap, upd_eF])
    exact g2 h3
  · have hkg := K.k g (by omega)
    (try simp only [eI_lit, eI_neg, eI_add, eI_sub, eI_mul, eF_ap, upd_eF]); refine And.intro (eI_in (by omega) (by omega) (by omega)) ?_; (try simp (disch := omega) only [eI_cl, Int.toNat_natCast])
    have e1 : (495 + (g : Int)).toNat = 495 + g := by omega
    rw [e1, R.k g (by omega)]
    refine M_weightOf hkg.1 (by omega) ?_
    rw [WT_c e hkg.1 (by omega)]
    (try simp only [eI_lit, eI_neg, eI_add, eI_sub, eI_mul, eF_ap, upd_eF])
    refine hs (g + 1) _ _ (by omega) ⟨by omega, ?_, by congr 1⟩
    rw [sm]; congr 1; omega
def wagS (τ : Nat → Int) (T : TS) (i : Nat) (w : Int) : Int := if w = 0 then T.k i else if w = 1 then fo τ T.k T.hd i else if w = 2 then brp τ (TX τ T) T.hd i else if w = 3 then T.w i else dg τ T.k T.hd i
theorem M_dragOf {τ σ : Nat → Int} (O : LOk τ) (e : Eqv τ σ) {k u : Int} (h0 : 0 ≤ k) (h1 : k < τ 3) (hu : -100000 ≤ u) (hu2 : u < 400) {Q : Int32 → Prop} (hq : Q (eI (WT τ k * (GR τ u + τ 6)))) : w_LongTrainModel_dragOf (eF σ) (eI k) (eI u) Q := by
  have hkc := O.kc
  unfold w_LongTrainModel_dragOf
  refine M_weightOf h0 (by omega) ?_
  refine M_GR hu hu2 ?_
  rw [WT_c e h0 (by omega), GR_c e hu2, eF_ap, e 6 (by omega)]
  (try simp only [eI_lit, eI_neg, eI_add, eI_sub, eI_mul, eF_ap, upd_eF]); exact hq
theorem M_wagon {τ σ : Nat → Int} (O : LOk τ) (e : Eqv τ σ) {T : TS} (R : RT σ T) (K : TOk τ T) {i w f b : F32} {x v : Int} (hx : B31 x) (hv : B31 v) {Q : Int32 → F32 → F32 → F32 → F32 → Prop} (h0 : ¬ ((0 ≤ x ∧ x < T.n) ∧ 0 ≤ v ∧ v ≤ 4) → ∀ z i' w' f' b', KP i i' → i' 0 = 1 → Q z i' w' f' b') (hq : (0 ≤ x ∧ x < T.n) ∧ 0 ≤ v ∧ v ≤ 4 → ∀ i' w' f' b', KP i i' → i' 0 = 0 → Q (eI (wagS τ T x.toNat v)) i' w' f' b') : w_LongTrainModel_wagon i (eF σ) w f b (eI x) (eI v) Q := by
  have n18 := K.n18 O
  unfold w_LongTrainModel_wagon
  rw [eF_ap, R.n]
  have bad : ¬ ((0 ≤ x ∧ x < T.n) ∧ 0 ≤ v ∧ v ≤ 4) → j_LongTrainModel_wagon_28 i (eF σ) w f b (eI x) (eI v) Q := fun hn => by
    unfold j_LongTrainModel_wagon_28 j_LongTrainModel_wagon_33
    refine M_throwsIf1 ?_
    (first | refine z1T ?_ | refine z1N ?_)
    exact h0 hn _ _ _ _ _ KP.u0 upd_s
  (try simp only [eI_lit, eI_neg, eI_add, eI_sub, eI_mul, eF_ap, upd_eF])
  refine M_isIn hx (by (first | exact B31_s (by omega) (by omega) | exact B31_of _ | (constructor <;> omega))) (by (first | exact B31_s (by omega) (by omega) | exact B31_of _ | (constructor <;> omega))) (fun a1 a2 => ?_) (fun a => by (first | refine z0T ?_ | refine z0N ?_); exact bad (by omega))
  (first | refine z1T ?_ | refine z1N ?_)
  refine M_isIn hv (by (first | exact B31_s (by omega) (by omega) | exact B31_of _ | (constructor <;> omega))) (by (first | exact B31_s (by omega) (by omega) | exact B31_of _ | (constructor <;> omega))) (fun b1 b2 => ?_) (fun a => by (first | refine z0T ?_ | refine z0N ?_); exact bad (by omega))
  (first | refine z1T ?_ | refine z1N ?_)
  unfold j_LongTrainModel_wagon_33
  refine M_throwsIf0 ?_
  (first | refine z0T ?_ | refine z0N ?_)
  rw [eF_ap, R.hd]
  have ex : x = ((x.toNat : Nat) : Int) := by omega
  have hq' := hq (by omega)
  generalize hX : x.toNat = X at *
  subst ex
  refine M_nowStands O e R K K.hd0 (K.hd4 O) (fun i' w' f' b' hi hl hw hf hb => ?_)
  have hq2 := hq' i' w' f' b' (Kp.of2 hi).P (by rw [hi 0 (by omega) (by omega), upd_s])
  unfold wagS at hq2
  (try simp only [eI_lit, eI_neg, eI_add, eI_sub, eI_mul, eF_ap, upd_eF])
  refine q_ne hv (by (first | exact B31_s (by omega) (by omega) | exact B31_of _ | (constructor <;> omega))) (fun n0 => ?_) (fun n0 => ?_)
  · rw [if_neg n0] at hq2
    refine q_ne hv (by (first | exact B31_s (by omega) (by omega) | exact B31_of _ | (constructor <;> omega))) (fun n1 => ?_) (fun n1 => ?_)
    · rw [if_neg n1] at hq2
      refine q_ne hv (by (first | exact B31_s (by omega) (by omega) | exact B31_of _ | (constructor <;> omega))) (fun n2 => ?_) (fun n2 => ?_)
      · rw [if_neg n2] at hq2
        refine q_ne hv (by (first | exact B31_s (by omega) (by omega) | exact B31_of _ | (constructor <;> omega))) (fun n3 => ?_) (fun n3 => ?_)
        · rw [if_neg n3] at hq2
          refine And.intro (eI_in (by omega) (by omega) (by omega)) ?_; refine And.intro (eI_in (by omega) (by omega) (by omega)) ?_; (try simp (disch := omega) only [eI_cl, Int.toNat_natCast])
          have hk := K.k X (by omega)
          have hl2 := sm_lg O K.k (i := X) (by omega)
          have h4 := K.hd4 O
          have h5 := K.hd0
          rw [hw X (by omega), hf X (by omega)]
          exact M_dragOf O e hk.1 hk.2 (by unfold fo; omega) (by unfold fo; omega) hq2
        · rw [if_pos n3] at hq2
          refine And.intro (eI_in (by omega) (by omega) (by omega)) ?_; (try simp (disch := omega) only [eI_cl, Int.toNat_natCast])
          have e1 : (515 + (X : Int)).toNat = 515 + X := by omega
          rw [e1, R.w X (by omega)]; exact hq2
      · rw [if_pos n2] at hq2
        refine And.intro (eI_in (by omega) (by omega) (by omega)) ?_; (try simp (disch := omega) only [eI_cl, Int.toNat_natCast]); rw [hb X (by omega)]; exact hq2
    · rw [if_pos n1] at hq2
      refine And.intro (eI_in (by omega) (by omega) (by omega)) ?_; (try simp (disch := omega) only [eI_cl, Int.toNat_natCast]); rw [hf X (by omega)]; exact hq2
  · rw [if_pos n0] at hq2
    refine And.intro (eI_in (by omega) (by omega) (by omega)) ?_; (try simp (disch := omega) only [eI_cl, Int.toNat_natCast])
    have e1 : (495 + (X : Int)).toNat = 495 + X := by omega
    rw [e1, R.k X (by omega)]; exact hq2
