/-! cook, back -/
def psq (σ : Nat → Int) (h : Int) (c : Nat) : Prop := wB σ h c ≤ ST σ (wK σ h c) / 2
theorem M_mayPass {σ} (O : LOk σ) {h : Int} (hh : h ≤ 400) {c : Nat} (hc : c < wN σ h) {b w : F32} (hb : ∀ j, j < wN σ h → b j = eI (wB σ h j)) (hw : ∀ j, j < wN σ h → w j = eI (wK σ h j)) {Q : Int32 → Prop} (h1 : psq σ h c → Q 1) (h0 : ¬ psq σ h c → Q 0) : w_LongTrainModel_mayPass b w (eF σ) (eI c) Q := by
  have h18 := wN_18 O h
  have hkc := O.kc
  have hk := wK_ok O h c hc
  have hs := st_b O (wK_ok O h) hc
  have hbd := wB_bd O hh (j := c) (by omega)
  unfold w_LongTrainModel_mayPass
  unfold psq at h1 h0
  refine And.intro (eI_in (by omega) (by omega) (by omega)) ?_; refine And.intro (eI_in (by omega) (by omega) (by omega)) ?_; (try simp (disch := omega) only [eI_cl, Int.toNat_natCast])
  rw [hw c hc, hb c hc]
  refine M_strengthOf hk.1 (by omega) ?_
  (try simp only [eI_lit, eI_neg, eI_add, eI_sub, eI_mul, eF_ap, upd_eF])
  rw [eI_div (by omega) (by omega) (by omega) (by omega)]
  exact q_lt (by (first | exact B31_s (by omega) (by omega) | exact B31_of _ | (constructor <;> omega))) (by (first | exact B31_s (by omega) (by omega) | exact B31_of _ | (constructor <;> omega))) (fun h => h0 (by omega)) (fun h => h1 h)
theorem C_canPass {σ} (O : LOk σ) {h : Int} (hh : h ≤ 400) {c : Nat} (hc : c < wN σ h) (hc0 : 0 < c) {i b S : F32} (hi : i 8 = eI (wN σ h)) (hb : ∀ j, j < wN σ h → b j = eI (wB σ h j)) (hS : ∀ j, j < wN σ h → S j = eI (ST σ (wK σ h j))) {Q : Int32 → Prop} (h1 : psq σ h c → Q 1) (h0 : ¬ psq σ h c → Q 0) : w_Free_canPass i b S (eI c) Q := by
  have h18 := wN_18 O h
  have hs := st_b O (wK_ok O h) hc
  have hbd := wB_bd O hh (j := c) (by omega)
  unfold w_Free_canPass
  unfold psq at h1 h0
  rw [hi]
  (try simp only [eI_lit, eI_neg, eI_add, eI_sub, eI_mul, eF_ap, upd_eF])
  refine q_le (by (first | exact B31_s (by omega) (by omega) | exact B31_of _ | (constructor <;> omega))) (by (first | exact B31_s (by omega) (by omega) | exact B31_of _ | (constructor <;> omega))) (fun h => by omega) (fun _ => ?_)
  refine q_le (by (first | exact B31_s (by omega) (by omega) | exact B31_of _ | (constructor <;> omega))) (by (first | exact B31_s (by omega) (by omega) | exact B31_of _ | (constructor <;> omega))) (fun h => by omega) (fun _ => ?_)
  refine And.intro (eI_in (by omega) (by omega) (by omega)) ?_; refine And.intro (eI_in (by omega) (by omega) (by omega)) ?_; (try simp (disch := omega) only [eI_cl, Int.toNat_natCast])
  rw [hS c hc, hb c hc, eI_div (by omega) (by omega) (by omega) (by omega)]
  exact q_lt (by (first | exact B31_s (by omega) (by omega) | exact B31_of _ | (constructor <;> omega))) (by (first | exact B31_s (by omega) (by omega) | exact B31_of _ | (constructor <;> omega))) (fun h => h0 (by omega)) (fun h => h1 h)
noncomputable def cm (σ : Nat → Int) (h : Int) : Nat → Nat → Int → Int → Nat × Int
  | 0, on, left, _ => (on, left)
  | n + 1, on, left, steps => if steps < left then (on, left - steps) else @ite (Nat × Int) (psq σ h (on + 1)) (Classical.propDecidable _) (cm σ h n (on + 1) (LG σ (wK σ h (on + 1))) (steps - left)) (on, 0)
noncomputable def bm (σ : Nat → Int) (h : Int) : Nat → Nat → Int → Int → Nat × Int
  | 0, on, left, steps => if steps < left then (on, left - steps) else (on, 0)
  | n + 1, on, left, steps => if steps < left then (on, left - steps) else @ite (Nat × Int) (psq σ h on) (Classical.propDecidable _) (bm σ h n (on - 1) (LG σ (wK σ h (on - 1))) (steps - left)) (on, 0)
noncomputable def co (σ : Nat → Int) (i j : Nat) (a : Int) : Nat → Nat × Int
  | 0 => (i, LG σ (wK σ a i))
  | m + 1 => cm σ (a + m) (j - (co σ i j a m).1) (co σ i j a m).1 (co σ i j a m).2 (σ 9)
noncomputable def bo (σ : Nat → Int) (i j : Nat) (a : Int) : Nat → Nat × Int
  | 0 => (j, 0)
  | m + 1 => bm σ (a + m) ((bo σ i j a m).1 - i) (bo σ i j a m).1 (bo σ i j a m).2 (σ 9)
theorem lg_b {σ} (O : LOk σ) {h : Int} {j : Nat} (hj : j < wN σ h) : 1 ≤ LG σ (wK σ h j) ∧ LG σ (wK σ h j) ≤ 9 := by
  have h1 := wK_ok O h j hj
  exact (O.kd _ h1.1 h1.2).1
theorem cm_bd {σ} (O : LOk σ) {h : Int} : ∀ (n on : Nat) (left steps : Int), on + n < wN σ h → 0 ≤ left → left ≤ 9 → 0 ≤ steps → on ≤ (cm σ h n on left steps).1 ∧ (cm σ h n on left steps).1 ≤ on + n ∧ 0 ≤ (cm σ h n on left steps).2 ∧ (cm σ h n on left steps).2 ≤ 9
  | 0, on, left, steps, _, h1, h2, h3 => ⟨Nat.le_refl _, Nat.le_refl _, h1, h2⟩
  | n + 1, on, left, steps, hN, h1, h2, h3 => by
    unfold cm
    split
    · exact ⟨Nat.le_refl _, by show on ≤ _; omega, by show 0 ≤ left - steps; omega, by show left - steps ≤ 9; omega⟩
    · split
      · have hl := lg_b O (h := h) (j := on + 1) (by omega)
        have := cm_bd O (h := h) n (on + 1) (LG σ (wK σ h (on + 1))) (steps - left) (by omega) (by omega) (by omega) (by omega)
        omega
      · exact ⟨Nat.le_refl _, by show on ≤ _; omega, by show (0 : Int) ≤ 0; omega, by show (0 : Int) ≤ 9; omega⟩
theorem bm_bd {σ} (O : LOk σ) {h : Int} : ∀ (n on : Nat) (left steps : Int), on < wN σ h → n ≤ on → 0 ≤ left → left ≤ 9 → 0 ≤ steps → on - n ≤ (bm σ h n on left steps).1 ∧ (bm σ h n on left steps).1 ≤ on ∧ 0 ≤ (bm σ h n on left steps).2 ∧ (bm σ h n on left steps).2 ≤ 9
  | 0, on, left, steps, _, _, h1, h2, h3 => by
    unfold bm
    split
    · exact ⟨by show on - 0 ≤ on; omega, Nat.le_refl _, by show 0 ≤ left - steps; omega, by show left - steps ≤ 9; omega⟩
    · exact ⟨by show on - 0 ≤ on; omega, Nat.le_refl _, by show (0 : Int) ≤ 0; omega, by show (0 : Int) ≤ 9; omega⟩
  | n + 1, on, left, steps, hN, hn, h1, h2, h3 => by
    unfold bm
    split
    · exact ⟨by show _ ≤ on; omega, Nat.le_refl _, by show 0 ≤ left - steps; omega, by show left - steps ≤ 9; omega⟩
    · split
      · have hl := lg_b O (h := h) (j := on - 1) (by omega)
        have := bm_bd O (h := h) n (on - 1) (LG σ (wK σ h (on - 1))) (steps - left) (by omega) (by omega) (by omega) (by omega) (by omega)
        omega
      · exact ⟨by show _ ≤ on; omega, Nat.le_refl _, by show (0 : Int) ≤ 0; omega, by show (0 : Int) ≤ 9; omega⟩
theorem wN_mono {σ} (O : LOk σ) {a h : Int} (hah : a ≤ h) : wN σ a ≤ wN σ h := by
  have := hb_mono O hah
  unfold wN
  have e : hb σ h = hb σ a + (hb σ h - hb σ a) := by omega
  rw [e]
  exact frn_mono σ
theorem co_bd {σ} (O : LOk σ) {i j : Nat} {a : Int} (hij : i ≤ j) (hj : j < wN σ a) : ∀ m : Nat, i ≤ (co σ i j a m).1 ∧ (co σ i j a m).1 ≤ j ∧ 0 ≤ (co σ i j a m).2 ∧ (co σ i j a m).2 ≤ 9
  | 0 => by
    have := lg_b O (h := a) (j := i) (by omega)
    exact ⟨Nat.le_refl _, hij, by show 0 ≤ LG σ (wK σ a i); omega, by show LG σ (wK σ a i) ≤ 9; omega⟩
  | m + 1 => by
    have h1 := co_bd O hij hj m
    have h2 := wN_mono O (a := a) (h := a + m) (by omega)
    have hw := O.walk
    have := cm_bd O (h := a + m) (j - (co σ i j a m).1) (co σ i j a m).1 (co σ i j a m).2 (σ 9) (by omega) h1.2.2.1 h1.2.2.2 (by omega)
    unfold co
    omega
theorem bo_bd {σ} (O : LOk σ) {i j : Nat} {a : Int} (hij : i ≤ j) (hj : j < wN σ a) : ∀ m : Nat, i ≤ (bo σ i j a m).1 ∧ (bo σ i j a m).1 ≤ j ∧ 0 ≤ (bo σ i j a m).2 ∧ (bo σ i j a m).2 ≤ 9
  | 0 => ⟨hij, Nat.le_refl _, by show (0 : Int) ≤ 0; omega, by show (0 : Int) ≤ 9; omega⟩
  | m + 1 => by
    have h1 := bo_bd O hij hj m
    have h2 := wN_mono O (a := a) (h := a + m) (by omega)
    have hw := O.walk
    have := bm_bd O (h := a + m) ((bo σ i j a m).1 - i) (bo σ i j a m).1 (bo σ i j a m).2 (σ 9) (by omega) (by omega) h1.2.2.1 h1.2.2.2 (by omega)
    unfold bo
    omega
/-- one minute of the cook, in the reference -/
theorem M_cookMin {σ} (O : LOk σ) {h : Int} (hh : h ≤ 400) {j : Nat} (hj : j < wN σ h) {b w : F32} (hb : ∀ j, j < wN σ h → b j = eI (wB σ h j)) (hw : ∀ j, j < wN σ h → w j = eI (wK σ h j)) {on : Nat} {left steps : Int} (hon : on ≤ j) (hl0 : 0 ≤ left) (hl9 : left ≤ 9) (hs0 : 0 ≤ steps) (hs9 : steps ≤ 9) {kx : Int32 → Int32 → Prop} (hq : kx (eI (cm σ h (j - on) on left steps).1) (eI (cm σ h (j - on) on left steps).2)) : ∃ n, lp_LongTrainModel_cook_73 (eF σ) w b (eI j) kx n (eI on) (eI left) (eI steps) 1 := by
  have h18 := wN_18 O h
  have hkc := O.kc
  refine lg_LongTrainModel_cook_73 (G := Nat) (fun g x4 x5 x8 x9 => (g = 0 ∧ x9 = 0 ∧ x4 = eI (cm σ h (j - on) on left steps).1 ∧ x5 = eI (cm σ h (j - on) on left steps).2) ∨ (∃ (o : Nat) (l s : Int), g = j - o + 1 ∧ o ≤ j ∧ 0 ≤ l ∧ l ≤ 9 ∧ 0 ≤ s ∧ s ≤ 9 ∧ x9 = 1 ∧ x4 = eI o ∧ x5 = eI l ∧ x8 = eI s ∧ cm σ h (j - o) o l s = cm σ h (j - on) on left steps)) (fun g => g) ?_ (j - on + 1) (Or.inr ⟨on, left, steps, rfl, hon, hl0, hl9, hs0, hs9, rfl, rfl, rfl, rfl, rfl⟩)
  rintro kr g x4 x5 x8 x9 (⟨rfl, rfl, rfl, rfl⟩ | ⟨o, l, s, rfl, ho, l0, l9, s0, s9, rfl, rfl, rfl, rfl, he⟩) hstep
  · unfold b_LongTrainModel_cook_73
    (first | refine z0T ?_ | refine z0N ?_); exact hq
  · unfold b_LongTrainModel_cook_73
    (first | refine z1T ?_ | refine z1N ?_)
    refine q_le (by (first | exact B31_s (by omega) (by omega) | exact B31_of _ | (constructor <;> omega))) (by (first | exact B31_s (by omega) (by omega) | exact B31_of _ | (constructor <;> omega))) (fun h2 => ?_) (fun h2 => ?_)
    · have e : j - o = 0 := by omega
      rw [e] at he
      have he' : (o, l) = cm σ h (j - on) on left steps := he
      rw [← he'] at hq
      exact hq
    · have e : j - o = (j - (o + 1)) + 1 := by omega
      rw [e, cm] at he
      refine q_lt (by (first | exact B31_s (by omega) (by omega) | exact B31_of _ | (constructor <;> omega))) (by (first | exact B31_s (by omega) (by omega) | exact B31_of _ | (constructor <;> omega))) (fun h3 => ?_) (fun h3 => ?_)
      · unfold j_LongTrainModel_cook_96
        (first | refine z0T ?_ | refine z0N ?_)
        rw [if_pos h3] at he
        (try simp only [eI_lit, eI_neg, eI_add, eI_sub, eI_mul, eF_ap, upd_eF])
        refine hstep 0 _ _ _ _ (by omega) (Or.inl ⟨rfl, rfl, ?_, ?_⟩)
        · rw [← he]
        · rw [← he]
      · unfold j_LongTrainModel_cook_96
        (first | refine z1T ?_ | refine z1N ?_)
        rw [if_neg (by omega)] at he
        (try simp only [eI_lit, eI_neg, eI_add, eI_sub, eI_mul, eF_ap, upd_eF])
        have ec : ((o : Int) + 1) = ((o + 1 : Nat) : Int) := by omega
        rw [ec]
        refine M_mayPass O hh (by omega) hb hw (fun hp => ?_) (fun hp => ?_)
        · refine ⟨fun h => absurd h (by decide), fun _ => ?_⟩
          rw [if_pos hp] at he
          refine And.intro (eI_in (by omega) (by omega) (by omega)) ?_; (try simp (disch := omega) only [eI_cl, Int.toNat_natCast])
          have hk := wK_ok O h (o + 1) (by omega)
          have hlb := lg_b O (h := h) (j := o + 1) (by omega)
          rw [hw (o + 1) (by omega)]
          refine M_longOf hk.1 (by omega) ?_
          exact hstep (j - (o + 1) + 1) _ _ _ _ (by omega) (Or.inr ⟨o + 1, _, s - l, rfl, by omega, by omega, by omega, by omega, by omega, rfl, rfl, rfl, rfl, he⟩)
        · refine ⟨fun _ => ?_, fun h => absurd rfl h⟩
          rw [if_neg hp] at he
          refine hstep 0 _ _ _ _ (by omega) (Or.inl ⟨rfl, rfl, ?_, ?_⟩)
          · rw [← he]
          · rw [← he]
noncomputable def cookS (σ : Nat → Int) (i j a : Int) : Int := if (0 ≤ a ∧ a < σ 0) ∧ 0 ≤ i ∧ i ≤ j ∧ j < wN σ a then
    (if lf (fun m => (co σ i.toNat j.toNat a m).1 = j.toNat) ((σ 0 - a).toNat + 1) ≤ (σ 0 - a).toNat then (lf (fun m => (co σ i.toNat j.toNat a m).1 = j.toNat) ((σ 0 - a).toNat + 1) : Int) else -1) else -1
noncomputable def backS (σ : Nat → Int) (i j a : Int) : Int := if (0 ≤ a ∧ a < σ 0) ∧ 0 ≤ i ∧ i ≤ j ∧ j < wN σ a then
    (if lf (fun m => (bo σ i.toNat j.toNat a m).1 = i.toNat ∧ (bo σ i.toNat j.toNat a m).2 = 0) ((σ 0 - a).toNat + 1) ≤ (σ 0 - a).toNat then (lf (fun m => (bo σ i.toNat j.toNat a m).1 = i.toNat ∧ (bo σ i.toNat j.toNat a m).2 = 0) ((σ 0 - a).toNat + 1) : Int) else -1) else -1
theorem M_isWalk {σ} (O : LOk σ) {i w : F32} {x y a : Int} (hx : B31 x) (hy : B31 y) (ha : B31 a) {Q : Int32 → F32 → F32 → Prop} (h1 : (0 ≤ a ∧ a < σ 0) ∧ 0 ≤ x ∧ x ≤ y ∧ y < wN σ a → ∀ i' w', Kp i i' → (∀ j, j < wN σ a → w' j = eI (wK σ a j)) → Q 1 i' w') (h0 : ¬ ((0 ≤ a ∧ a < σ 0) ∧ 0 ≤ x ∧ x ≤ y ∧ y < wN σ a) → ∀ i' w', Kp i i' → Q 0 i' w') : w_LongTrainModel_isWalk i (eF σ) w (eI x) (eI y) (eI a) Q := by
  have hu := O.u
  have h18 := wN_18 O a
  unfold w_LongTrainModel_isWalk
  refine M_isUnit O ha (fun a1 a2 => ?_) (fun h => by (first | refine z0T ?_ | refine z0N ?_); exact h0 (by omega) _ _ Kp.rf)
  (first | refine z1T ?_ | refine z1N ?_)
  refine M_free O (by omega) (by omega) (fun w' hw => ?_)
  rw [upd_s]
  (try simp only [eI_lit, eI_neg, eI_add, eI_sub, eI_mul, eF_ap, upd_eF])
  have k2 : Kp i (upd i 27 (eI (frn σ (hb σ a) : Nat))) := Kp.rf.u (by omega)
  refine q_lt hx (by (first | exact B31_s (by omega) (by omega) | exact B31_of _ | (constructor <;> omega))) (fun h => h0 (by omega) _ _ k2) (fun b1 => ?_)
  refine q_lt hy hx (fun h => h0 (by omega) _ _ k2) (fun b2 => ?_)
  refine q_le (by show B31 ((wN σ a : Nat) : Int); (first | exact B31_s (by omega) (by omega) | exact B31_of _ | (constructor <;> omega))) hy (fun h => h0 ?_ _ _ k2) (fun b3 => h1 ⟨⟨a1, a2⟩, b1, b2, b3⟩ _ _ k2 hw)
  have h' : (wN σ a : Int) ≤ y := h
  omega
theorem M_cook {σ} (O : LOk σ) {i w f b : F32} {x y a : Int} (hx : B31 x) (hy : B31 y) (ha : B31 a) {Q : Int32 → F32 → F32 → F32 → F32 → Prop} (hq : ∀ i' w' f' b', KP i i' → Q (eI (cookS σ x y a)) i' w' f' b') : w_LongTrainModel_cook i (eF σ) w f b (eI x) (eI y) (eI a) Q := by
  have hu := O.u
  have hkc := O.kc
  have hwk := O.walk
  have h18 := wN_18 O a
  unfold w_LongTrainModel_cook
  unfold cookS at hq
  refine M_isWalk O hx hy ha (fun hc i1 w1 k1 hw1 => ?_) (fun hc i1 w1 k1 => ?_)
  · (first | refine z1T ?_ | refine z1N ?_)
    rw [if_pos hc] at hq
    obtain ⟨⟨a1, a2⟩, b1, b2, b3⟩ := hc
    have ex : x = ((x.toNat : Nat) : Int) := by omega
    have ey : y = ((y.toNat : Nat) : Int) := by omega
    generalize hX : x.toNat = X at *
    generalize hY : y.toNat = Y at *
    subst ex ey
    refine And.intro (eI_in (by omega) (by omega) (by omega)) ?_; (try simp (disch := omega) only [eI_cl, Int.toNat_natCast])
    have hk := wK_ok O a X (by omega)
    rw [hw1 X (by omega)]
    refine M_longOf hk.1 (by omega) ?_
    (try simp only [eI_lit, eI_neg, eI_add, eI_sub, eI_mul, eF_ap, upd_eF])
    refine lg_LongTrainModel_cook_38 (G := Nat) (fun g x4 x5 x6 x7 i' w' f' b' => a + g ≤ σ 0 ∧ x4 = eI (co σ X Y a g).1 ∧ x5 = eI (co σ X Y a g).2 ∧ x6 = eI g ∧ x7 = eI (a + g) ∧ Kp (upd i 0 0) i' ∧ ∀ m, m < g → ¬ (co σ X Y a m).1 = Y) (fun g => (σ 0 - a).toNat - g) ?_ 0 ⟨by omega, rfl, rfl, rfl, by congr 1; omega, k1, fun m hm => absurd hm (Nat.not_lt_zero _)⟩
    rintro kr g x4 x5 x6 x7 i' w' f' b' ⟨hg, rfl, rfl, rfl, rfl, hk', hnb⟩ hstep
    have cb := co_bd O (i := X) (j := Y) (a := a) (by omega) (by omega) g
    unfold b_LongTrainModel_cook_38
    (try simp only [eI_lit, eI_neg, eI_add, eI_sub, eI_mul, eF_ap, upd_eF])
    refine q_le (by (first | exact B31_s (by omega) (by omega) | exact B31_of _ | (constructor <;> omega))) (by (first | exact B31_s (by omega) (by omega) | exact B31_of _ | (constructor <;> omega))) (fun h => ?_) (fun h => ?_)
    · have e1 := lf_eq (P := fun m => (co σ X Y a m).1 = Y) (n := (σ 0 - a).toNat + 1) (m := g) (by omega) hnb (fun _ => by omega)
      rw [e1, if_pos (by omega)] at hq
      refine q_ne (by (first | exact B31_s (by omega) (by omega) | exact B31_of _ | (constructor <;> omega))) (by (first | exact B31_s (by omega) (by omega) | exact B31_of _ | (constructor <;> omega))) (fun h2 => by omega) (fun h2 => hq _ _ _ _ hk'.P)
    · refine q_le (by (first | exact B31_s (by omega) (by omega) | exact B31_of _ | (constructor <;> omega))) (by (first | exact B31_s (by omega) (by omega) | exact B31_of _ | (constructor <;> omega))) (fun h2 => ?_) (fun h2 => ?_)
      · have e1 := lf_eq (P := fun m => (co σ X Y a m).1 = Y) (n := (σ 0 - a).toNat + 1) (m := (σ 0 - a).toNat + 1) (Nat.le_refl _) (fun m hm => by
          by_cases hmg : m = g
          · subst hmg; omega
          · exact hnb m (by omega)) (fun h => absurd h (Nat.lt_irrefl _))
        rw [e1, if_neg (by omega)] at hq
        refine q_ne (by (first | exact B31_s (by omega) (by omega) | exact B31_of _ | (constructor <;> omega))) (by (first | exact B31_s (by omega) (by omega) | exact B31_of _ | (constructor <;> omega))) (fun h2 => hq _ _ _ _ hk'.P) (fun h2 => by omega)
      · refine M_withAt O (by omega) (by omega) (fun i2 w2 f2 b2 k2 hn hw hb => ?_)
        have hmn := wN_mono O (a := a) (h := a + g) (by omega)
        refine M_cookMin O (by omega) (by omega) hb hw cb.2.1 cb.2.2.1 cb.2.2.2 (by omega) (by omega) ?_
        refine hstep (g + 1) _ _ _ _ _ _ _ _ (by omega) ⟨by omega, rfl, rfl, by congr 1, by congr 1; omega, hk'.tr k2, fun m hm => ?_⟩
        by_cases hmg : m = g
        · subst hmg; omega
        · exact hnb m (by omega)
  · (first | refine z0T ?_ | refine z0N ?_)
    rw [if_neg hc] at hq
    exact hq _ _ _ _ k1.P
/-- one minute of the way back -/
theorem M_backMin {σ} (O : LOk σ) {h : Int} (hh : h ≤ 400) {i : Nat} {b w : F32} (hb : ∀ j, j < wN σ h → b j = eI (wB σ h j)) (hw : ∀ j, j < wN σ h → w j = eI (wK σ h j)) {on : Nat} {left steps : Int} (hi : i ≤ on) (hon : on < wN σ h) (hl0 : 0 ≤ left) (hl9 : left ≤ 9) (hs0 : 0 ≤ steps) (hs9 : steps ≤ 9) (hgo : i < on ∨ 0 < left) {kx : Int32 → Int32 → Prop} (hq : kx (eI (bm σ h (on - i) on left steps).1) (eI (bm σ h (on - i) on left steps).2)) : ∃ n, lp_LongTrainModel_back_69 (eF σ) w b (eI i) kx n (eI on) (eI left) (eI steps) 1 := by
  have h18 := wN_18 O h
  have hkc := O.kc
  refine lg_LongTrainModel_back_69 (G := Nat) (fun g x4 x5 x8 x9 => (g = 0 ∧ x9 = 0 ∧ x4 = eI (bm σ h (on - i) on left steps).1 ∧ x5 = eI (bm σ h (on - i) on left steps).2) ∨ (∃ (o : Nat) (l s : Int), g = o - i + 1 ∧ i ≤ o ∧ o < wN σ h ∧ 0 ≤ l ∧ l ≤ 9 ∧ 0 ≤ s ∧ s ≤ 9 ∧ (i < o ∨ 0 < l) ∧ x9 = 1 ∧ x4 = eI o ∧ x5 = eI l ∧ x8 = eI s ∧ bm σ h (o - i) o l s = bm σ h (on - i) on left steps)) (fun g => g) ?_ (on - i + 1) (Or.inr ⟨on, left, steps, rfl, hi, hon, hl0, hl9, hs0, hs9, hgo, rfl, rfl, rfl, rfl, rfl⟩)
  rintro kr g x4 x5 x8 x9 (⟨rfl, rfl, rfl, rfl⟩ | ⟨o, l, s, rfl, ho, hoN, l0, l9, s0, s9, hg, rfl, rfl, rfl, rfl, he⟩) hstep
  · unfold b_LongTrainModel_back_69
    (first | refine z0T ?_ | refine z0N ?_); exact hq
  · have main : j_LongTrainModel_back_85 (eF σ) w b (eI i) (eI o) (eI l) (eI s) kr := by
      unfold j_LongTrainModel_back_85
      refine q_lt (by (first | exact B31_s (by omega) (by omega) | exact B31_of _ | (constructor <;> omega))) (by (first | exact B31_s (by omega) (by omega) | exact B31_of _ | (constructor <;> omega))) (fun h3 => ?_) (fun h3 => ?_)
      · unfold j_LongTrainModel_back_97
        (first | refine z0T ?_ | refine z0N ?_)
        (try simp only [eI_lit, eI_neg, eI_add, eI_sub, eI_mul, eF_ap, upd_eF])
        have e : (o, l - s) = bm σ h (on - i) on left steps := by
          rw [← he]
          cases hn : o - i with
          | zero => rw [bm, if_pos h3]
          | succ n => rw [bm, if_pos h3]
        refine hstep 0 _ _ _ _ (by omega) (Or.inl ⟨rfl, rfl, ?_, ?_⟩)
        · rw [← e]
        · rw [← e]
      · unfold j_LongTrainModel_back_97
        (first | refine z1T ?_ | refine z1N ?_)
        (try simp only [eI_lit, eI_neg, eI_add, eI_sub, eI_mul, eF_ap, upd_eF])
        have stop : (o, (0 : Int)) = bm σ h (on - i) on left steps → j_LongTrainModel_back_143 (eF σ) w (eI o) (eI 0) (eI (s - l)) kr := fun e => by
          unfold j_LongTrainModel_back_143 j_LongTrainModel_back_144
          (first | refine z0T ?_ | refine z0N ?_)
          refine hstep 0 _ _ _ _ (by omega) (Or.inl ⟨rfl, rfl, ?_, ?_⟩)
          · rw [← e]
          · rw [← e]
        refine q_le (by (first | exact B31_s (by omega) (by omega) | exact B31_of _ | (constructor <;> omega))) (by (first | exact B31_s (by omega) (by omega) | exact B31_of _ | (constructor <;> omega))) (fun h4 => ?_) (fun h4 => ?_)
        · have e0 : o - i = 0 := by omega
          rw [e0, bm, if_neg (by omega)] at he
          exact stop he
        · have e0 : o - i = (o - 1 - i) + 1 := by omega
          rw [e0, bm, if_neg (by omega)] at he
          refine M_mayPass O hh hoN hb hw (fun hp => ?_) (fun hp => ?_)
          · refine ⟨fun h => absurd h (by decide), fun _ => ?_⟩
            rw [if_pos hp] at he
            unfold j_LongTrainModel_back_144
            refine ⟨fun h => absurd h (by decide), fun _ => ?_⟩
            (try simp only [eI_lit, eI_neg, eI_add, eI_sub, eI_mul, eF_ap, upd_eF])
            have ec : ((o : Int) + -1) = ((o - 1 : Nat) : Int) := by omega
            rw [ec]
            refine And.intro (eI_in (by omega) (by omega) (by omega)) ?_; (try simp (disch := omega) only [eI_cl, Int.toNat_natCast])
            have hk := wK_ok O h (o - 1) (by omega)
            have hlb := lg_b O (h := h) (j := o - 1) (by omega)
            rw [hw (o - 1) (by omega)]
            refine M_longOf hk.1 (by omega) ?_
            exact hstep (o - 1 - i + 1) _ _ _ _ (by omega) (Or.inr ⟨o - 1, _, s - l, rfl, by omega, by omega, by omega, by omega, by omega, by omega, by omega, rfl, rfl, rfl, rfl, he⟩)
          · refine ⟨fun _ => ?_, fun h => absurd rfl h⟩
            rw [if_neg hp] at he
            exact stop he
    unfold b_LongTrainModel_back_69
    (first | refine z1T ?_ | refine z1N ?_)
    refine q_lt (by (first | exact B31_s (by omega) (by omega) | exact B31_of _ | (constructor <;> omega))) (by (first | exact B31_s (by omega) (by omega) | exact B31_of _ | (constructor <;> omega))) (fun h2 => main) (fun h2 => ?_)
    (try simp only [eI_lit, eI_neg, eI_add, eI_sub, eI_mul, eF_ap, upd_eF])
    exact q_le (by (first | exact B31_s (by omega) (by omega) | exact B31_of _ | (constructor <;> omega))) (by (first | exact B31_s (by omega) (by omega) | exact B31_of _ | (constructor <;> omega))) (fun h3 => by omega) (fun h3 => main)
theorem M_back {σ} (O : LOk σ) {i w f b : F32} {x y a : Int} (hx : B31 x) (hy : B31 y) (ha : B31 a) {Q : Int32 → F32 → F32 → F32 → F32 → Prop} (hq : ∀ i' w' f' b', KP i i' → Q (eI (backS σ x y a)) i' w' f' b') : w_LongTrainModel_back i (eF σ) w f b (eI x) (eI y) (eI a) Q := by
  have hu := O.u
  have hwk := O.walk
  have h18 := wN_18 O a
  unfold w_LongTrainModel_back
  unfold backS at hq
  refine M_isWalk O hx hy ha (fun hc i1 w1 k1 hw1 => ?_) (fun hc i1 w1 k1 => ?_)
  · (first | refine z1T ?_ | refine z1N ?_)
    rw [if_pos hc] at hq
    obtain ⟨⟨a1, a2⟩, b1, b2, b3⟩ := hc
    have ex : x = ((x.toNat : Nat) : Int) := by omega
    have ey : y = ((y.toNat : Nat) : Int) := by omega
    generalize hX : x.toNat = X at *
    generalize hY : y.toNat = Y at *
    subst ex ey
    (try simp only [eI_lit, eI_neg, eI_add, eI_sub, eI_mul, eF_ap, upd_eF])
    refine lg_LongTrainModel_back_29 (G := Nat) (fun g x4 x5 x6 x7 i' w' f' b' => a + g ≤ σ 0 ∧ x4 = eI (bo σ X Y a g).1 ∧ x5 = eI (bo σ X Y a g).2 ∧ x6 = eI g ∧ x7 = eI (a + g) ∧ Kp (upd i 0 0) i' ∧ ∀ m, m < g → ¬ ((bo σ X Y a m).1 = X ∧ (bo σ X Y a m).2 = 0)) (fun g => (σ 0 - a).toNat - g) ?_ 0 ⟨by omega, rfl, rfl, rfl, by congr 1; omega, k1, fun m hm => absurd hm (Nat.not_lt_zero _)⟩
    rintro kr g x4 x5 x6 x7 i' w' f' b' ⟨hg, rfl, rfl, rfl, rfl, hk', hnb⟩ hstep
    have cb := bo_bd O (i := X) (j := Y) (a := a) (by omega) (by omega) g
    have main : (X < (bo σ X Y a g).1 ∨ 0 < (bo σ X Y a g).2) → j_LongTrainModel_back_40 i' (eF σ) w' f' b' (eI X) (eI (bo σ X Y a g).1) (eI (bo σ X Y a g).2) (eI g) (eI (a + g)) kr (fun x4 x5 x6 i' w' f' b' => (¬ x4 = eI X → Q (eI (-1)) i' w' f' b') ∧ (x4 = eI X → (¬ x5 = eI 0 → Q (eI (-1)) i' w' f' b') ∧ (x5 = eI 0 → Q x6 i' w' f' b'))) := fun hgo => by
      unfold j_LongTrainModel_back_40
      (try simp only [eI_lit, eI_neg, eI_add, eI_sub, eI_mul, eF_ap, upd_eF])
      refine q_le (by (first | exact B31_s (by omega) (by omega) | exact B31_of _ | (constructor <;> omega))) (by (first | exact B31_s (by omega) (by omega) | exact B31_of _ | (constructor <;> omega))) (fun h2 => ?_) (fun h2 => ?_)
      · have e1 := lf_eq (P := fun m => (bo σ X Y a m).1 = X ∧ (bo σ X Y a m).2 = 0) (n := (σ 0 - a).toNat + 1) (m := (σ 0 - a).toNat + 1) (Nat.le_refl _) (fun m hm => by
          by_cases hmg : m = g
          · subst hmg; omega
          · exact hnb m (by omega)) (fun h => absurd h (Nat.lt_irrefl _))
        rw [e1, if_neg (by omega)] at hq
        refine q_ne (by (first | exact B31_s (by omega) (by omega) | exact B31_of _ | (constructor <;> omega))) (by (first | exact B31_s (by omega) (by omega) | exact B31_of _ | (constructor <;> omega))) (fun h2 => hq _ _ _ _ hk'.P) (fun h2 => ?_)
        exact q_ne (by (first | exact B31_s (by omega) (by omega) | exact B31_of _ | (constructor <;> omega))) (by (first | exact B31_s (by omega) (by omega) | exact B31_of _ | (constructor <;> omega))) (fun h2 => hq _ _ _ _ hk'.P) (fun h2 => by omega)
      · refine M_withAt O (by omega) (by omega) (fun i2 w2 f2 b2 k2 hn hw hb => ?_)
        have hmn := wN_mono O (a := a) (h := a + g) (by omega)
        refine M_backMin O (by omega) hb hw cb.1 (by omega) cb.2.2.1 cb.2.2.2 (by omega) (by omega) hgo ?_
        refine hstep (g + 1) _ _ _ _ _ _ _ _ (by omega) ⟨by omega, rfl, rfl, by congr 1, by congr 1; omega, hk'.tr k2, fun m hm => ?_⟩
        by_cases hmg : m = g
        · subst hmg; omega
        · exact hnb m (by omega)
    unfold b_LongTrainModel_back_29
    refine q_lt (by (first | exact B31_s (by omega) (by omega) | exact B31_of _ | (constructor <;> omega))) (by (first | exact B31_s (by omega) (by omega) | exact B31_of _ | (constructor <;> omega))) (fun h => main (by omega)) (fun h => ?_)
    (try simp only [eI_lit, eI_neg, eI_add, eI_sub, eI_mul, eF_ap, upd_eF])
    refine q_le (by (first | exact B31_s (by omega) (by omega) | exact B31_of _ | (constructor <;> omega))) (by (first | exact B31_s (by omega) (by omega) | exact B31_of _ | (constructor <;> omega))) (fun h3 => ?_) (fun h3 => main (by omega))
    have e1 := lf_eq (P := fun m => (bo σ X Y a m).1 = X ∧ (bo σ X Y a m).2 = 0) (n := (σ 0 - a).toNat + 1) (m := g) (by omega) hnb (fun _ => by omega)
    rw [e1, if_pos (by omega)] at hq
    refine q_ne (by (first | exact B31_s (by omega) (by omega) | exact B31_of _ | (constructor <;> omega))) (by (first | exact B31_s (by omega) (by omega) | exact B31_of _ | (constructor <;> omega))) (fun h2 => by omega) (fun h2 => ?_)
    exact q_ne (by (first | exact B31_s (by omega) (by omega) | exact B31_of _ | (constructor <;> omega))) (by (first | exact B31_s (by omega) (by omega) | exact B31_of _ | (constructor <;> omega))) (fun h2 => by omega) (fun h2 => hq _ _ _ _ hk'.P)
  · (first | refine z0T ?_ | refine z0N ?_)
    rw [if_neg hc] at hq
    exact hq _ _ _ _ k1.P
