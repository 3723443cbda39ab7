/-! rows: begin, travel, measure and the rest -/
theorem RowR.app {σ n k k' kd head nh i K L W S E P H} (h : ∀ j, j < n → k' j = k j) (h2 : k' n = kd) (r : RowR σ ((mkX σ n k).ins n kd (ST σ kd)) head nh i K L W S E P H) : RowR σ (mkX σ (n + 1) k') head nh i K L W S E P H := by
  refine RowR.congr (X := (mkX σ n k).ins n kd (ST σ kd)) ⟨rfl, fun j hj => ?_⟩ r
  have hj' : j < n + 1 := hj
  show insF k n kd j = k' j ∧ insF (fun j => ST σ (k j)) n (ST σ kd) j = ST σ (k' j) ∧ insF (fun _ => (0 : Int)) n 0 j = 0 ∧ insF (fun _ => (0 : Int)) n 0 j = 0 ∧ insF (fun _ => (0 : Int)) n 0 j = 0
  by_cases hjn : j = n
  · subst hjn; simp only [insF_eq, h2]; exact ⟨trivial, trivial, trivial, trivial, trivial⟩
  · have hlt : j < n := by omega
    simp only [insF_lt hlt, h j hlt]; exact ⟨trivial, trivial, trivial, trivial, trivial⟩
def FX (σ : Nat → Int) (m : Nat) : RW := mkX σ (frn σ m) (frk σ m)
/-- nextHalt ahead of what comes on at a head -/
def hz (σ : Nat → Int) (h : Int) : Nat := hb σ (max (h - 1) 0)
theorem hz_le {σ} (O : LOk σ) (h : Int) : (hz σ h : Int) ≤ σ 1 := hb_le O _
theorem fr_hz {σ} (O : LOk σ) {h : Int} (h0 : 0 ≤ h) : frn σ (hz σ h) = frn σ (hb σ (h - 1)) ∧ frk σ (hz σ h) = frk σ (hb σ (h - 1)) := by
  unfold hz
  by_cases h1 : h = 0
  · subst h1
    have a := fr_zero O (h := 0) (by omega) (hb σ 0) (Nat.le_refl _)
    have b := fr_zero O (h := -1) (by omega) (hb σ (-1)) (Nat.le_refl _)
    exact ⟨by show frn σ (hb σ 0) = frn σ (hb σ (-1)); rw [a.1, b.1], by show frk σ (hb σ 0) = frk σ (hb σ (-1)); rw [a.2, b.2]⟩
  · have e : max (h - 1) 0 = h - 1 := by omega
    rw [e]; exact ⟨rfl, rfl⟩
theorem hz_sp {σ} (O : LOk σ) {g : Int} {k : Nat} (hk : (k : Int) < σ 1) : k < hz σ g ↔ AT σ k ≤ max (g - 1) 0 := hb_sp O _ hk
theorem nh_step {σ} (O : LOk σ) {g : Int} (h0 : 0 ≤ g) : nhN σ (hz σ g) g = hb σ g := by
  symm
  have hle := hz_le O g
  have lo : ∀ k : Nat, k < hz σ g → AT σ k ≤ g := fun k hk => by have := (hz_sp O (g := g) (k := k) (by omega)).mp hk; omega
  have hi : ∀ k : Nat, hz σ g ≤ k → (k : Int) < σ 1 → max (g - 1) 0 < AT σ k := fun k hk hk2 => by
    have := (hz_sp O (g := g) hk2); omega
  unfold nhN
  by_cases hc : (hz σ g : Int) < σ 1 ∧ AT σ (hz σ g) = g
  · rw [if_pos hc]
    refine hb_eq O (by omega) (fun k hk => ?_) (fun k hk hk2 => ?_)
    · by_cases e : k = hz σ g
      · rw [e]; omega
      · exact lo k (by omega)
    · have := O.asc (hz σ g) k (by omega) hk2; omega
  · rw [if_neg hc]
    refine hb_eq O hle lo (fun k hk hk2 => ?_)
    have h1 := hi k hk hk2
    have h2 := hi (hz σ g) (Nat.le_refl _) (by omega)
    by_cases e : k = hz σ g
    · subst e; omega
    · have := O.asc (hz σ g) k (by omega) hk2; omega
theorem hz_next {σ : Nat → Int} {g : Int} (h0 : 0 ≤ g) : hz σ (g + 1) = hb σ g := by
  unfold hz
  have e : max (g + 1 - 1) 0 = g := by omega
  rw [e]
theorem fr_n (σ : Nat → Int) {m : Nat} (hm : 1 ≤ AT σ m ∧ 0 ≤ AD σ m) : frn σ (m + 1) = frn σ m + 1 ∧ frk σ (m + 1) = updI (frk σ m) (frn σ m) (AD σ m) := by
  rw [frn, frk, if_pos hm, if_pos hm]; exact ⟨rfl, rfl⟩
theorem fr_o (σ : Nat → Int) {m : Nat} (hm : ¬ (1 ≤ AT σ m ∧ 0 ≤ AD σ m)) : frn σ (m + 1) = frn σ m ∧ frk σ (m + 1) = frk σ m := by
  rw [frn, frk, if_neg hm, if_neg hm]; exact ⟨rfl, rfl⟩
theorem tk_free {σ} (O : LOk σ) {g : Int} (h0 : 0 ≤ g) : RWeq (tkX σ (FX σ (hz σ g)) (hz σ g) g) (FX σ (hb σ g)) := by
  have hs := nh_step O h0
  have hle := hz_le O g
  unfold nhN at hs
  unfold tkX adN
  by_cases hc : (hz σ g : Int) < σ 1 ∧ AT σ (hz σ g) = g
  · rw [if_pos hc] at hs
    rw [if_pos hc]
    have h2 := hz_sp O (g := g) (k := hz σ g) hc.1
    rw [← hs]
    by_cases ha : 0 ≤ AD σ (hz σ g)
    · rw [if_pos ha]
      have h3 := fr_n σ (m := hz σ g) ⟨by omega, ha⟩
      refine ⟨h3.1.symm, fun j hj => ?_⟩
      have hj' : j < frn σ (hz σ g) + 1 := hj
      show insF (frk σ (hz σ g)) (frn σ (hz σ g)) (AD σ (hz σ g)) j = frk σ (hz σ g + 1) j ∧ insF (fun j => ST σ (frk σ (hz σ g) j)) (frn σ (hz σ g)) (ST σ (AD σ (hz σ g))) j = ST σ (frk σ (hz σ g + 1) j) ∧ insF (fun _ => (0 : Int)) (frn σ (hz σ g)) 0 j = 0 ∧ insF (fun _ => (0 : Int)) (frn σ (hz σ g)) 0 j = 0 ∧ insF (fun _ => (0 : Int)) (frn σ (hz σ g)) 0 j = 0
      rw [h3.2]
      by_cases hjn : j = frn σ (hz σ g)
      · subst hjn; simp only [insF_eq, updI_s]; exact ⟨trivial, trivial, trivial, trivial, trivial⟩
      · have hlt : j < frn σ (hz σ g) := by omega
        simp only [insF_lt hlt, updI_n _ hjn]; exact ⟨trivial, trivial, trivial, trivial, trivial⟩
    · rw [if_neg ha]
      have h3 := fr_o σ (m := hz σ g) (by omega)
      unfold FX
      rw [h3.1, h3.2]
      exact ⟨rfl, fun j _ => ⟨rfl, rfl, rfl, rfl, rfl⟩⟩
  · rw [if_neg hc] at hs
    rw [if_neg hc, if_neg (by omega), ← hs]
    exact ⟨rfl, fun j _ => ⟨rfl, rfl, rfl, rfl, rfl⟩⟩
theorem frn_18 {σ} (O : LOk σ) {m : Nat} (hm : (m : Int) ≤ σ 1) : frn σ m ≤ 18 := by
  have := frn_le O m
  have := O.hc
  omega
theorem R_begin {σ} (O : LOk σ) {i K L W S E P H : F32} {il hl fl d : F32} (I : LnI σ il) (HH : LnH σ hl) (FF : LnF σ fl) (D : LnK σ d) {Q : QR} (hq : ∀ i' K' L' W' S' E' P' H', RowR σ (FX σ (hz σ 0)) 0 (hz σ 0) i' K' L' W' S' E' P' H' → Q i' K' L' W' S' E' P' H') : w_Row_begin i il hl fl K L W S E P H d Q := by
  have hhc := O.hc
  have hfc := O.fc
  have hkc := O.kc
  have hu := O.u
  have hzl := hz_le O 0
  unfold w_Row_begin
  refine lg_Row_begin_20 (G := Nat) (fun g i' => g ≤ hz σ 0 ∧ i' = upd (upd (upd (upd i 8 0) 9 0) 10 0) 11 (eI g)) (fun g => hz σ 0 - g) ?_ 0 ⟨by omega, rfl⟩
  rintro kr g i' ⟨hg, rfl⟩ hs
  have fin : g = hz σ 0 → j_Row_begin_55 (upd (upd (upd (upd i 8 0) 9 0) 10 0) 11 (eI g)) il fl K L W S E P H d Q := by
    intro hg
    subst hg
    unfold j_Row_begin_55
    refine lg_Row_begin_57 (G := Nat) (fun g x i' K' L' W' S' E' P' H' => g ≤ (σ 10).toNat ∧ x = eI g ∧ RowR σ (mkX σ g (frk σ 0)) 0 (hz σ 0) i' K' L' W' S' E' P' H') (fun g => (σ 10).toNat - g) ?_ 0 ⟨by omega, rfl, ?_⟩
    · rintro kr g x i' K' L' W' S' E' P' H' ⟨hg, rfl, r⟩ hs
      unfold b_Row_begin_57
      rw [I.fc]
      refine q_le (by (first | exact B31_s (by omega) (by omega) | exact B31_of _ | (constructor <;> omega))) (by (first | exact B31_s (by omega) (by omega) | exact B31_of _ | (constructor <;> omega))) (fun h => ?_) (fun h => ?_)
      · have e : g = (σ 10).toNat := by omega
        subst e
        refine hq _ _ _ _ _ _ _ _ ?_
        have z := fr_zero O (h := 0) (by omega) (hz σ 0) (by unfold hz; exact Nat.le_refl _)
        unfold FX
        rw [z.1, z.2]
        exact r
      · refine And.intro (eI_in (by omega) (by omega) (by omega)) ?_; (try simp (disch := omega) only [eI_cl, Int.toNat_natCast])
        have ht := O.tr g (by omega)
        rw [FF g (by omega)]
        refine R_insert r D (by omega) (by show g < 20; omega) (Nat.le_refl _) ht.1 ht.2 (fun i2 K2 L2 W2 S2 E2 P2 H2 r2 => ?_)
        (try simp only [eI_lit, eI_neg, eI_add, eI_sub, eI_mul, eF_ap, upd_eF])
        exact hs (g + 1) _ _ _ _ _ _ _ _ _ (by omega) ⟨by omega, by congr 1, RowR.app (fun _ _ => rfl) rfl r2⟩
    · refine ⟨?_, ?_, ?_, ?_, ?_, ?_, ?_, ?_, ?_, ?_, ?_⟩
      · rw [upd_n (by omega), upd_n (by omega), upd_n (by omega), upd_s]; rfl
      · rw [upd_n (by omega), upd_n (by omega), upd_s]; rfl
      · rw [upd_n (by omega), upd_s]; rfl
      · rw [upd_s]
      all_goals intro j hj; exact absurd hj (Nat.not_lt_zero _)
  unfold b_Row_begin_20
  rw [I.hc, upd_s]
  (try simp only [eI_lit, eI_neg, eI_add, eI_sub, eI_mul, eF_ap, upd_eF])
  refine q_le (by (first | exact B31_s (by omega) (by omega) | exact B31_of _ | (constructor <;> omega))) (by (first | exact B31_s (by omega) (by omega) | exact B31_of _ | (constructor <;> omega))) (fun h => fin (by omega)) (fun h => ?_)
  have ha := O.at_ g (by omega)
  have h2 := hz_sp O (g := 0) (k := g) (by omega)
  refine L_haltAt HH (by omega) (by omega) ?_
  refine q_lt (by (first | exact B31_s (by omega) (by omega) | exact B31_of _ | (constructor <;> omega))) (by (first | exact B31_s (by omega) (by omega) | exact B31_of _ | (constructor <;> omega))) (fun h3 => fin (by omega)) (fun h3 => ?_)
  exact hs (g + 1) _ (by omega) ⟨by omega, by rw [upd_upd]; congr 1⟩
theorem R_travel {σ} (O : LOk σ) {i K L W S E P H : F32} {il hl fl d : F32} (I : LnI σ il) (HH : LnH σ hl) (FF : LnF σ fl) (D : LnK σ d) {t : Int} (h0 : 0 ≤ t) (h1 : t ≤ 400) {Q : QR} (hq : ∀ i' K' L' W' S' E' P' H', RowR σ (FX σ (hz σ t)) t (hz σ t) i' K' L' W' S' E' P' H' → Q i' K' L' W' S' E' P' H') : w_Row_travel i il hl fl K L W S E P H d (eI t) Q := by
  unfold w_Row_travel
  refine R_begin O I HH FF D (fun i' K' L' W' S' E' P' H' r => ?_)
  refine lg_Row_travel_5 (G := Nat) (fun g i' K' L' W' S' E' P' H' => (g : Int) ≤ t ∧ RowR σ (FX σ (hz σ g)) g (hz σ g) i' K' L' W' S' E' P' H') (fun g => t.toNat - g) ?_ 0 ⟨by omega, r⟩
  rintro kr g i' K' L' W' S' E' P' H' ⟨hg, r⟩ hs
  unfold b_Row_travel_5
  rw [r.hd]
  refine q_le (by (first | exact B31_s (by omega) (by omega) | exact B31_of _ | (constructor <;> omega))) (by (first | exact B31_s (by omega) (by omega) | exact B31_of _ | (constructor <;> omega))) (fun h => ?_) (fun h => ?_)
  · have e : t = g := by omega
    subst e
    exact hq _ _ _ _ _ _ _ _ r
  · have hf := frn_18 O (hz_le O (g : Int))
    refine R_takeOn O r I HH D (by (first | exact B31_s (by omega) (by omega) | exact B31_of _ | (constructor <;> omega))) (hz_le O _) (by show frn σ (hz σ g) < 20; omega) (fun i2 K2 L2 W2 S2 E2 P2 H2 r2 => ?_)
    rw [r2.hd]
    (try simp only [eI_lit, eI_neg, eI_add, eI_sub, eI_mul, eF_ap, upd_eF])
    rw [nh_step O (by omega)] at r2
    have r3 := (r2.congr (tk_free O (by omega))).head ((g + 1 : Nat) : Int)
    have e : ((g + 1 : Nat) : Int) = (g : Int) + 1 := by omega
    rw [← hz_next (by omega), ← e] at r3
    rw [← e]
    exact hs (g + 1) _ _ _ _ _ _ _ _ (by omega) ⟨by omega, r3⟩
theorem R_start {σ} (O : LOk σ) {i K L W S E P H : F32} {il hl fl d : F32} (I : LnI σ il) (HH : LnH σ hl) (FF : LnF σ fl) (D : LnK σ d) {t : Int} (h0 : 0 ≤ t) (h1 : t ≤ 400) {Q : QR} (hq : ∀ i' K' L' W' S' E' P' H', RowR σ (FX σ (hb σ t)) t (hb σ t) i' K' L' W' S' E' P' H' → Q i' K' L' W' S' E' P' H') : w_Free_start il i hl fl K L W S E P H d (eI t) Q := by
  unfold w_Free_start
  refine R_travel O I HH FF D h0 h1 (fun i' K' L' W' S' E' P' H' r => ?_)
  have hf := frn_18 O (hz_le O t)
  refine R_takeOn O r I HH D (by (first | exact B31_s (by omega) (by omega) | exact B31_of _ | (constructor <;> omega))) (hz_le O _) (by show frn σ (hz σ t) < 20; omega) (fun i2 K2 L2 W2 S2 E2 P2 H2 r2 => ?_)
  rw [nh_step O (by omega)] at r2
  exact hq _ _ _ _ _ _ _ _ (r2.congr (tk_free O (by omega)))
/-- takeOn of a free row, at the head where it stands -/
theorem R_takeF {σ} (O : LOk σ) {t : Int} {i K L W S E P H : F32} (r : RowR σ (FX σ (hz σ t)) t (hz σ t) i K L W S E P H) {il hl d : F32} (I : LnI σ il) (HH : LnH σ hl) (D : LnK σ d) (h0 : 0 ≤ t) (h1 : t ≤ 400) {Q : QR} (hq : ∀ i' K' L' W' S' E' P' H', RowR σ (FX σ (hb σ t)) t (hb σ t) i' K' L' W' S' E' P' H' → Q i' K' L' W' S' E' P' H') : w_Row_takeOn i il hl K L W S E P H d Q := by
  have hf := frn_18 O (hz_le O t)
  refine R_takeOn O r I HH D (by (first | exact B31_s (by omega) (by omega) | exact B31_of _ | (constructor <;> omega))) (hz_le O _) (by show frn σ (hz σ t) < 20; omega) (fun i2 K2 L2 W2 S2 E2 P2 H2 r2 => ?_)
  rw [nh_step O (by omega)] at r2
  exact hq _ _ _ _ _ _ _ _ (r2.congr (tk_free O (by omega)))
/-! measure -/
def dgp (σ : Nat → Int) (X : RW) (head : Int) (j : Nat) : Int := dg σ X.k head j - X.p j
def brp (σ : Nat → Int) (X : RW) (head : Int) (i : Nat) : Int := sm (dgp σ X head) X.n - sm (dgp σ X head) i
def ldp (σ : Nat → Int) (X : RW) (head : Int) : Int := sm (dgp σ X head) X.n + σ 5 * ((if σ 0 = 0 then 0 else GR σ head) + σ 6)
theorem brp_n (σ X head) : brp σ X head X.n = 0 := by simp [brp]
theorem brp_s (σ X head i) : brp σ X head i = brp σ X head (i + 1) + dgp σ X head i := by simp only [brp, sm]; omega
theorem brp_0 {σ X head} (h : ∀ j, j < X.n → X.p j = 0) {i : Nat} (hi : i ≤ X.n) : brp σ X head i = br σ X.k X.n head i := by
  unfold brp br
  rw [sm_congr (f := dgp σ X head) (g := dg σ X.k head) (n := X.n) (fun j hj => by unfold dgp; rw [h j hj]; omega), sm_congr (f := dgp σ X head) (g := dg σ X.k head) (n := i) (fun j hj => by unfold dgp; rw [h j (by omega)]; omega)]
theorem ldp_0 {σ X head} (h : ∀ j, j < X.n → X.p j = 0) : ldp σ X head = ld σ X.k X.n head := by
  unfold ldp ld
  rw [sm_congr (f := dgp σ X head) (g := dg σ X.k head) (n := X.n) (fun j hj => by unfold dgp; rw [h j hj]; omega)]
theorem R_measure {σ} (O : LOk σ) {X head nh i K L W S E P H} (r : RowR σ X head nh i K L W S E P H) {il g : F32} (I : LnI σ il) (G : LnG σ g) (hk : KOk σ X.k X.n) (hn : X.n ≤ 20) (h0 : 0 ≤ head) (h1 : head < σ 0 ∨ head = 0) {b : F32} {Q : Int32 → F32 → Prop} (hq : ∀ b', (∀ j, j < X.n → b' j = eI (brp σ X head j)) → Q (eI (ldp σ X head)) b') : w_Row_measure i il L g W P b Q := by
  have hu := O.u
  unfold w_Row_measure
  rw [r.hd, r.tot, r.sz]
  (try simp only [eI_lit, eI_neg, eI_add, eI_sub, eI_mul, eF_ap, upd_eF])
  refine lg_Row_measure_22 (G := Nat) (fun m x2 x3 x4 b => m ≤ X.n ∧ x2 = eI (fo σ X.k head m) ∧ x3 = eI (brp σ X head m) ∧ x4 = eI ((m : Int) - 1) ∧ ∀ j, m ≤ j → j < X.n → b j = eI (brp σ X head j)) (fun m => m) ?_ X.n ⟨by omega, rfl, by rw [brp_n], rfl, by intro j; omega⟩
  rintro kr m x2 x3 x4 b ⟨hm, rfl, rfl, rfl, hb⟩ hs
  unfold b_Row_measure_22
  (try simp only [eI_lit, eI_neg, eI_add, eI_sub, eI_mul, eF_ap, upd_eF])
  refine q_lt (by (first | exact B31_s (by omega) (by omega) | exact B31_of _ | (constructor <;> omega))) (by (first | exact B31_s (by omega) (by omega) | exact B31_of _ | (constructor <;> omega))) (fun h => ?_) (fun h => ?_)
  · have e : m = 0 := by omega
    subst e
    rw [I.eng]
    refine L_dragOf I G (by omega) (by omega) (by omega) (by omega) ?_
    (try simp only [eI_lit, eI_neg, eI_add, eI_sub, eI_mul, eF_ap, upd_eF])
    have e1 : brp σ X head 0 = sm (dgp σ X head) X.n := by simp [brp, sm]
    have e2 : GC σ head = if σ 0 = 0 then 0 else GR σ head := by
      by_cases hz : σ 0 = 0
      · rw [if_pos hz]; unfold GC; rw [if_pos (by omega)]
      · rw [if_neg hz]; exact GC_GR (by omega)
    rw [e1, e2]
    exact hq b (fun j hj => hb j (by omega) hj)
  · have e1 : ((m : Int) - 1).toNat = m - 1 := by omega
    have e3 : m - 1 + 1 = m := by omega
    have hl := sm_lg O hk (i := m - 1) (by omega)
    have ef := fo_s σ X.k head (m - 1)
    have eb := brp_s σ X head (m - 1)
    rw [e3] at ef eb
    refine And.intro (eI_in (by omega) (by omega) (by omega)) ?_; refine And.intro (eI_in (by omega) (by omega) (by omega)) ?_; (try simp (disch := omega) only [eI_cl, Int.toNat_natCast])
    rw [e1, r.l (m - 1) (by omega), r.w (m - 1) (by omega), r.p (m - 1) (by omega)]
    (try simp only [eI_lit, eI_neg, eI_add, eI_sub, eI_mul, eF_ap, upd_eF])
    have ef2 : fo σ X.k head m + LG σ (X.k (m - 1)) = fo σ X.k head (m - 1) := by omega
    rw [ef2]
    refine L_gradeOf I G (by unfold fo; omega) (by unfold fo; omega) (by omega) (by omega) ?_
    refine And.intro (eI_in (by omega) (by omega) (by omega)) ?_; refine And.intro (eI_in (by omega) (by omega) (by omega)) ?_
    rw [I.rub, GC_GR (by unfold fo; omega)]
    (try simp only [eI_lit, eI_neg, eI_add, eI_sub, eI_mul, eF_ap, upd_eF])
    have eb2 : brp σ X head m + (WT σ (X.k (m - 1)) * (GR σ (fo σ X.k head (m - 1)) + σ 6) - X.p (m - 1)) = brp σ X head (m - 1) := by rw [eb]; rfl
    rw [eb2]
    refine hs (m - 1) _ _ _ _ (by omega) ⟨by omega, rfl, rfl, by congr 1; omega, fun j hj hjn => ?_⟩
    by_cases hjr : j = m - 1
    · subst hjr; exact upd_s
    · rw [upd_n hjr]; exact hb j (by omega) hjn
/-- the least number below n with P, else n -/
noncomputable def lf (P : Nat → Prop) : Nat → Nat
  | 0 => 0
  | n + 1 => if lf P n < n then lf P n else @ite Nat (P n) (Classical.propDecidable (P n)) n (n + 1)
theorem lf_sp (P : Nat → Prop) : ∀ n, lf P n ≤ n ∧ (∀ j, j < lf P n → ¬ P j) ∧ (lf P n < n → P (lf P n))
  | 0 => ⟨Nat.le_refl _, fun j hj => absurd hj (Nat.not_lt_zero _), fun h => absurd h (Nat.lt_irrefl _)⟩
  | n + 1 => by
    obtain ⟨h1, h2, h3⟩ := lf_sp P n
    unfold lf
    by_cases h : lf P n < n
    · rw [if_pos h]; exact ⟨by omega, h2, fun _ => h3 h⟩
    · rw [if_neg h]
      have e : lf P n = n := by omega
      rw [e] at h2
      by_cases hp : P n
      · rw [if_pos hp]; exact ⟨by omega, h2, fun _ => hp⟩
      · rw [if_neg hp]
        refine ⟨by omega, fun j hj => ?_, fun h => absurd h (Nat.lt_irrefl _)⟩
        by_cases hjn : j = n
        · subst hjn; exact hp
        · exact h2 j (by omega)
theorem lf_eq {P : Nat → Prop} {n m : Nat} (h1 : m ≤ n) (h2 : ∀ j, j < m → ¬ P j) (h3 : m < n → P m) : lf P n = m := by
  obtain ⟨a, b, c⟩ := lf_sp P n
  rcases Nat.lt_trichotomy (lf P n) m with h | h | h
  · exact absurd (c (by omega)) (h2 _ h)
  · exact h
  · exact absurd (h3 (by omega)) (b m h)
def Bad (σ : Nat → Int) (s w B : Nat → Int) (j : Nat) : Prop := eI (s j) < eI (B j) ∨ eI (σ 8 * s j) < eI (w j)
theorem R_partingPlace {σ X head nh i K L W S E P H} (r : RowR σ X head nh i K L W S E P H) (hn : X.n ≤ 20) {b : F32} {B : Nat → Int} (hb : ∀ j, j < X.n → b j = eI (B j)) {Q : Int32 → Prop} (h1 : lf (Bad σ X.s X.w B) X.n = X.n → Q (-1)) (h2 : lf (Bad σ X.s X.w B) X.n < X.n → Q (eI (lf (Bad σ X.s X.w B) X.n))) : w_Row_partingPlace i b S E (eI (σ 8)) Q := by
  unfold w_Row_partingPlace
  refine lg_Row_partingPlace_2 (G := Nat) (fun g x => g ≤ X.n ∧ x = eI g ∧ ∀ j, j < g → ¬ Bad σ X.s X.w B j) (fun g => X.n - g) ?_ 0 ⟨by omega, rfl, fun j hj => absurd hj (Nat.not_lt_zero _)⟩
  rintro kr g x ⟨hg, rfl, hnb⟩ hs
  unfold b_Row_partingPlace_2
  rw [r.sz]
  refine q_le (by (first | exact B31_s (by omega) (by omega) | exact B31_of _ | (constructor <;> omega))) (by (first | exact B31_s (by omega) (by omega) | exact B31_of _ | (constructor <;> omega))) (fun h => ?_) (fun h => ?_)
  · have e : g = X.n := by omega
    subst e
    exact h1 (lf_eq (Nat.le_refl _) hnb (fun h => absurd h (Nat.lt_irrefl _)))
  · refine And.intro (eI_in (by omega) (by omega) (by omega)) ?_; refine And.intro (eI_in (by omega) (by omega) (by omega)) ?_; (try simp (disch := omega) only [eI_cl, Int.toNat_natCast])
    have fin : Bad σ X.s X.w B g → Q (eI g) := fun hbad => by
      have e := lf_eq (n := X.n) hg hnb (fun _ => hbad)
      rw [e] at h2
      exact h2 (by omega)
    rw [r.s g (by omega), hb g (by omega), r.e g (by omega)]
    refine ⟨fun h3 => fin (Or.inl h3), fun h3 => ?_⟩
    refine And.intro (eI_in (by omega) (by omega) (by omega)) ?_; refine And.intro (eI_in (by omega) (by omega) (by omega)) ?_
    (try simp only [eI_lit, eI_neg, eI_add, eI_sub, eI_mul, eF_ap, upd_eF])
    refine ⟨fun h4 => ?_, fun h4 => fin (Or.inr (Int32.not_le.mp h4))⟩
    refine hs (g + 1) _ (by omega) ⟨by omega, by congr 1, fun j hj => ?_⟩
    by_cases hjg : j = g
    · subst hjg
      rintro (h5 | h5)
      · exact h3 h5
      · exact absurd h4 (Int32.not_le.mpr h5)
    · exact hnb j (by omega)
/-- what a coupling's wear grows by -/
def ps (x : Int) : Int := if (0 : Int32) < eI x then x else 0
theorem R_addWear {σ X head nh i K L W S E P H} (r : RowR σ X head nh i K L W S E P H) (hn : X.n ≤ 20) {b : F32} {B : Nat → Int} (hb : ∀ j, j < X.n → b j = eI (B j)) {m : Nat} (hm : m ≤ X.n) {Q : F32 → Prop} (hq : ∀ E', RowR σ ⟨X.n, X.k, X.s, fun j => if j < m then X.w j + ps (B j) else X.w j, X.p, X.h⟩ head nh i K L W S E' P H → Q E') : w_Row_addWear i b E (eI m) Q := by
  unfold w_Row_addWear
  refine lg_Row_addWear_2 (G := Nat) (fun g x E' => g ≤ m ∧ x = eI g ∧ RowR σ ⟨X.n, X.k, X.s, fun j => if j < g then X.w j + ps (B j) else X.w j, X.p, X.h⟩ head nh i K L W S E' P H) (fun g => m - g) ?_ 0 ⟨by omega, rfl, r⟩
  rintro kr g x E' ⟨hg, rfl, r'⟩ hs
  unfold b_Row_addWear_2
  rw [r.sz]
  refine q_le (by (first | exact B31_s (by omega) (by omega) | exact B31_of _ | (constructor <;> omega))) (by (first | exact B31_s (by omega) (by omega) | exact B31_of _ | (constructor <;> omega))) (fun h => ?_) (fun h => ?_)
  · have e : g = m := by omega
    subst e
    exact hq _ r'
  · refine q_le (by (first | exact B31_s (by omega) (by omega) | exact B31_of _ | (constructor <;> omega))) (by (first | exact B31_s (by omega) (by omega) | exact B31_of _ | (constructor <;> omega))) (fun h => by omega) (fun h => ?_)
    refine And.intro (eI_in (by omega) (by omega) (by omega)) ?_; (try simp (disch := omega) only [eI_cl, Int.toNat_natCast])
    rw [hb g (by omega)]
    have hE : E' g = eI (if g < g then X.w g + ps (B g) else X.w g) := r'.e g (by show g < X.n; omega)
    rw [if_neg (Nat.lt_irrefl _)] at hE
    refine ⟨fun h2 => ?_, fun h2 => ?_⟩
    · refine hs (g + 1) _ _ (by omega) ⟨by omega, by (try simp only [eI_lit, eI_neg, eI_add, eI_sub, eI_mul, eF_ap, upd_eF]); congr 1, ⟨r'.sz, r'.tot, r'.hd, r'.nx, r'.k, r'.l, r'.w, r'.s, fun j hj => ?_, r'.p, r'.h⟩⟩
      rw [r'.e j hj]
      show eI (if j < g then _ else _) = eI (if j < g + 1 then _ else _)
      by_cases hjg : j = g
      · subst hjg
        rw [if_neg (by omega), if_pos (by omega)]
        unfold ps
        rw [if_neg (Int32.not_lt.mpr h2)]; congr 1; omega
      · by_cases hlt : j < g
        · rw [if_pos hlt, if_pos (by omega)]
        · rw [if_neg hlt, if_neg (by omega)]
    · refine And.intro (eI_in (by omega) (by omega) (by omega)) ?_; refine And.intro (eI_in (by omega) (by omega) (by omega)) ?_; refine And.intro (eI_in (by omega) (by omega) (by omega)) ?_
      rw [hE]
      (try simp only [eI_lit, eI_neg, eI_add, eI_sub, eI_mul, eF_ap, upd_eF])
      refine hs (g + 1) _ _ (by omega) ⟨by omega, by congr 1, ⟨r'.sz, r'.tot, r'.hd, r'.nx, r'.k, r'.l, r'.w, r'.s, fun j hj => ?_, r'.p, r'.h⟩⟩
      show _ = eI (if j < g + 1 then _ else _)
      by_cases hjg : j = g
      · subst hjg
        rw [upd_s, if_pos (by omega)]
        unfold ps
        rw [if_pos (Int32.not_le.mp h2)]
      · rw [upd_n hjg, r'.e j hj]
        show eI (if j < g then _ else _) = _
        by_cases hlt : j < g
        · rw [if_pos hlt, if_pos (by omega)]
        · rw [if_neg hlt, if_neg (by omega)]
theorem R_isOverborne {σ X head nh i K L W S E P H} (r : RowR σ X head nh i K L W S E P H) (hn : X.n ≤ 20) {b : F32} {B : Nat → Int} (hb : ∀ j, j < X.n → b j = eI (B j)) {Q : Int32 → Prop} (h1 : (∃ j, j < X.n ∧ eI (X.s j) < eI (B j)) → Q 1) (h0 : (∀ j, j < X.n → ¬ eI (X.s j) < eI (B j)) → Q 0) : w_Row_isOverborne i b S Q := by
  unfold w_Row_isOverborne
  refine lg_Row_isOverborne_2 (G := Nat) (fun g x => g ≤ X.n ∧ x = eI g ∧ ∀ j, j < g → ¬ eI (X.s j) < eI (B j)) (fun g => X.n - g) ?_ 0 ⟨by omega, rfl, fun j hj => absurd hj (Nat.not_lt_zero _)⟩
  rintro kr g x ⟨hg, rfl, hnb⟩ hs
  unfold b_Row_isOverborne_2
  rw [r.sz]
  refine q_le (by (first | exact B31_s (by omega) (by omega) | exact B31_of _ | (constructor <;> omega))) (by (first | exact B31_s (by omega) (by omega) | exact B31_of _ | (constructor <;> omega))) (fun h => ?_) (fun h => ?_)
  · have e : g = X.n := by omega
    subst e
    exact h0 hnb
  · refine And.intro (eI_in (by omega) (by omega) (by omega)) ?_; refine And.intro (eI_in (by omega) (by omega) (by omega)) ?_; (try simp (disch := omega) only [eI_cl, Int.toNat_natCast])
    rw [r.s g (by omega), hb g (by omega)]
    refine ⟨fun h3 => ?_, fun h3 => h1 ⟨g, by omega, Int32.not_le.mp h3⟩⟩
    refine hs (g + 1) _ (by omega) ⟨by omega, by (try simp only [eI_lit, eI_neg, eI_add, eI_sub, eI_mul, eF_ap, upd_eF]); congr 1, fun j hj => ?_⟩
    by_cases hjg : j = g
    · subst hjg; exact Int32.not_lt.mpr h3
    · exact hnb j (by omega)
theorem R_foremostUnit {σ X head nh i K L W S E P H} (r : RowR σ X head nh i K L W S E P H) (hn : X.n ≤ 20) {m : Nat} (hm : m ≤ X.n) {Q : Int32 → Prop} (hq : Q (eI (fo σ X.k head m))) : w_Row_foremostUnit i L (eI m) Q := by
  unfold w_Row_foremostUnit
  rw [r.hd]
  (try simp only [eI_lit, eI_neg, eI_add, eI_sub, eI_mul, eF_ap, upd_eF])
  refine lg_Row_foremostUnit_9 (G := Nat) (fun g x y => g ≤ m ∧ x = eI (fo σ X.k head g) ∧ y = eI g) (fun g => m - g) ?_ 0 ⟨by omega, by rw [fo_0], rfl⟩
  rintro kr g x y ⟨hg, rfl, rfl⟩ hs
  unfold b_Row_foremostUnit_9
  rw [r.sz]
  refine q_le (by (first | exact B31_s (by omega) (by omega) | exact B31_of _ | (constructor <;> omega))) (by (first | exact B31_s (by omega) (by omega) | exact B31_of _ | (constructor <;> omega))) (fun h => ?_) (fun h => ?_)
  · have e : g = m := by omega
    subst e; exact hq
  · refine q_le (by (first | exact B31_s (by omega) (by omega) | exact B31_of _ | (constructor <;> omega))) (by (first | exact B31_s (by omega) (by omega) | exact B31_of _ | (constructor <;> omega))) (fun h => by omega) (fun h => ?_)
    refine And.intro (eI_in (by omega) (by omega) (by omega)) ?_; (try simp (disch := omega) only [eI_cl, Int.toNat_natCast])
    rw [r.l g (by omega)]
    (try simp only [eI_lit, eI_neg, eI_add, eI_sub, eI_mul, eF_ap, upd_eF])
    exact hs (g + 1) _ _ (by omega) ⟨by omega, by rw [fo_s], by congr 1⟩
theorem R_weightOfAll {σ X head nh i K L W S E P H} (r : RowR σ X head nh i K L W S E P H) (hn : X.n ≤ 20) {Q : Int32 → Prop} (hq : Q (eI (sm (fun j => WT σ (X.k j)) X.n))) : w_Row_weightOfAll i W Q := by
  unfold w_Row_weightOfAll
  refine lg_Row_weightOfAll_4 (G := Nat) (fun g x y => g ≤ X.n ∧ x = eI (sm (fun j => WT σ (X.k j)) g) ∧ y = eI g) (fun g => X.n - g) ?_ 0 ⟨by omega, rfl, rfl⟩
  rintro kr g x y ⟨hg, rfl, rfl⟩ hs
  unfold b_Row_weightOfAll_4
  rw [r.sz]
  refine q_le (by (first | exact B31_s (by omega) (by omega) | exact B31_of _ | (constructor <;> omega))) (by (first | exact B31_s (by omega) (by omega) | exact B31_of _ | (constructor <;> omega))) (fun h => ?_) (fun h => ?_)
  · have e : g = X.n := by omega
    subst e; exact hq
  · refine And.intro (eI_in (by omega) (by omega) (by omega)) ?_; (try simp (disch := omega) only [eI_cl, Int.toNat_natCast])
    rw [r.w g (by omega)]
    (try simp only [eI_lit, eI_neg, eI_add, eI_sub, eI_mul, eF_ap, upd_eF])
    exact hs (g + 1) _ _ (by omega) ⟨by omega, rfl, by congr 1⟩
theorem R_helperCount {σ X head nh i K L W S E P H} (r : RowR σ X head nh i K L W S E P H) (hn : X.n ≤ 20) {Q : Int32 → Prop} (hq : Q (eI (sm X.h X.n))) : w_Row_helperCount i H Q := by
  unfold w_Row_helperCount
  refine lg_Row_helperCount_4 (G := Nat) (fun g x y => g ≤ X.n ∧ x = eI (sm X.h g) ∧ y = eI g) (fun g => X.n - g) ?_ 0 ⟨by omega, rfl, rfl⟩
  rintro kr g x y ⟨hg, rfl, rfl⟩ hs
  unfold b_Row_helperCount_4
  rw [r.sz]
  refine q_le (by (first | exact B31_s (by omega) (by omega) | exact B31_of _ | (constructor <;> omega))) (by (first | exact B31_s (by omega) (by omega) | exact B31_of _ | (constructor <;> omega))) (fun h => ?_) (fun h => ?_)
  · have e : g = X.n := by omega
    subst e; exact hq
  · refine And.intro (eI_in (by omega) (by omega) (by omega)) ?_; (try simp (disch := omega) only [eI_cl, Int.toNat_natCast])
    rw [r.h g (by omega)]
    (try simp only [eI_lit, eI_neg, eI_add, eI_sub, eI_mul, eF_ap, upd_eF])
    exact hs (g + 1) _ _ (by omega) ⟨by omega, rfl, by congr 1⟩
theorem R_help {σ X head nh i K L W S E P H} (r : RowR σ X head nh i K L W S E P H) (hn : X.n ≤ 20) {m : Nat} (hm : m < X.n) {v : Int} {Q : F32 → F32 → Prop} (hq : ∀ P' H', RowR σ ⟨X.n, X.k, X.s, X.w, updI X.p m (X.p m + v), updI X.h m (X.h m + 1)⟩ head nh i K L W S E P' H' → Q P' H') : w_Row_help P H (eI m) (eI v) Q := by
  unfold w_Row_help
  refine And.intro (eI_in (by omega) (by omega) (by omega)) ?_; refine And.intro (eI_in (by omega) (by omega) (by omega)) ?_; refine And.intro (eI_in (by omega) (by omega) (by omega)) ?_; refine And.intro (eI_in (by omega) (by omega) (by omega)) ?_; (try simp (disch := omega) only [eI_cl, Int.toNat_natCast])
  rw [r.p m hm, r.h m hm]
  (try simp only [eI_lit, eI_neg, eI_add, eI_sub, eI_mul, eF_ap, upd_eF])
  refine hq _ _ ⟨r.sz, r.tot, r.hd, r.nx, r.k, r.l, r.w, r.s, r.e, fun j hj => ?_, fun j hj => ?_⟩
  · show _ = eI (updI X.p m _ j)
    by_cases hjm : j = m
    · subst hjm; rw [upd_s, updI_s]
    · rw [upd_n hjm, updI_n _ hjm]; exact r.p j hj
  · show _ = eI (updI X.h m _ j)
    by_cases hjm : j = m
    · subst hjm; rw [upd_s, updI_s]
    · rw [upd_n hjm, updI_n _ hjm]; exact r.h j hj
theorem R_dismiss {σ X head nh i K L W S E P H} (r : RowR σ X head nh i K L W S E P H) (hn : X.n ≤ 20) {Q : F32 → F32 → Prop} (hq : ∀ P' H', RowR σ ⟨X.n, X.k, X.s, X.w, fun _ => 0, fun _ => 0⟩ head nh i K L W S E P' H' → Q P' H') : w_Row_dismissHelpers i P H Q := by
  unfold w_Row_dismissHelpers
  refine lg_Row_dismissHelpers_2 (G := Nat) (fun g x P' H' => g ≤ X.n ∧ x = eI g ∧ (∀ j, j < g → P' j = eI 0 ∧ H' j = eI 0)) (fun g => X.n - g) ?_ 0 ⟨by omega, rfl, fun j hj => absurd hj (Nat.not_lt_zero _)⟩
  rintro kr g x P' H' ⟨hg, rfl, h0⟩ hs
  unfold b_Row_dismissHelpers_2
  rw [r.sz]
  refine q_le (by (first | exact B31_s (by omega) (by omega) | exact B31_of _ | (constructor <;> omega))) (by (first | exact B31_s (by omega) (by omega) | exact B31_of _ | (constructor <;> omega))) (fun h => ?_) (fun h => ?_)
  · have e : g = X.n := by omega
    subst e
    exact hq _ _ ⟨r.sz, r.tot, r.hd, r.nx, r.k, r.l, r.w, r.s, r.e, fun j hj => (h0 j hj).1, fun j hj => (h0 j hj).2⟩
  · refine And.intro (eI_in (by omega) (by omega) (by omega)) ?_; refine And.intro (eI_in (by omega) (by omega) (by omega)) ?_; (try simp (disch := omega) only [eI_cl, Int.toNat_natCast])
    refine hs (g + 1) _ _ _ (by omega) ⟨by omega, by (try simp only [eI_lit, eI_neg, eI_add, eI_sub, eI_mul, eF_ap, upd_eF]); congr 1, fun j hj => ?_⟩
    by_cases hjg : j = g
    · subst hjg; rw [upd_s, upd_s]; exact ⟨rfl, rfl⟩
    · rw [upd_n hjg, upd_n hjg]; exact h0 j (by omega)
