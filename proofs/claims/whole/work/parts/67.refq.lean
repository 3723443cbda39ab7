/-! what is asked of the FREE train: what is meant, and the reference -/
/-- the slots of the reference that outlive a call -/
def Kp (i i' : F32) : Prop := ∀ k, k = 0 ∨ k = 2 ∨ k = 15 ∨ k = 33 ∨ k = 38 ∨ k = 44 → i' k = i k
def KP (i i' : F32) : Prop := ∀ k, k = 2 ∨ k = 15 ∨ k = 33 ∨ k = 38 ∨ k = 44 → i' k = i k
theorem Kp.rf {i : F32} : Kp i i := fun _ _ => rfl
theorem Kp.tr {i i' i'' : F32} (h : Kp i i') (h2 : Kp i' i'') : Kp i i'' := fun k hk => (h2 k hk).trans (h k hk)
theorem Kp.u {i i' : F32} (h : Kp i i') {n : Nat} {x : Int32} (hn : n ≠ 0 ∧ n ≠ 2 ∧ n ≠ 15 ∧ n ≠ 33 ∧ n ≠ 38 ∧ n ≠ 44) : Kp i (upd i' n x) := fun k hk => by
  rw [upd_n (by omega)]; exact h k hk
theorem Kp.P {i i' : F32} {x : Int32} (h : Kp (upd i 0 x) i') : KP i i' := fun k hk => by
  rw [h k (by omega), upd_n (by omega)]
theorem Kp.P0 {i i' : F32} (h : Kp i i') : KP i i' := fun k hk => h k (by omega)
theorem KP.rf {i : F32} : KP i i := fun _ _ => rfl
theorem KP.u0 {i : F32} {x : Int32} : KP i (upd i 0 x) := Kp.P Kp.rf
def fN (σ : Nat → Int) (h : Int) : Nat := frn σ (hb σ (h - 1))
def fK (σ : Nat → Int) (h : Int) : Nat → Int := frk σ (hb σ (h - 1))
def fB (σ : Nat → Int) (h : Int) (j : Nat) : Int := br σ (fK σ h) (fN σ h) h j
def fL (σ : Nat → Int) (h : Int) : Int := ld σ (fK σ h) (fN σ h) h
theorem fN_18 {σ} (O : LOk σ) (h : Int) : fN σ h ≤ 18 := frn_18 O (hb_le O _)
theorem fK_ok {σ} (O : LOk σ) (h : Int) : KOk σ (fK σ h) (fN σ h) := KOk.fr O (hb_le O _)
theorem fB_bd {σ} (O : LOk σ) {h : Int} (hh : h ≤ 400) {j : Nat} (hj : j ≤ fN σ h) : -70000 ≤ fB σ h j ∧ fB σ h j ≤ 70000 := by
  have h1 := smdg_bd O (fK_ok O h) hh (i := fN σ h) (Nat.le_refl _)
  have h2 := smdg_bd O (fK_ok O h) hh (i := j) hj
  have h3 := fN_18 O h
  unfold fB br
  omega
theorem fL_bd {σ} (O : LOk σ) {h : Int} (hh : h < 400) : -70000 ≤ fL σ h ∧ fL σ h ≤ 70000 := by
  have h1 := smdg_bd O (fK_ok O h) (Int.le_of_lt hh) (i := fN σ h) (Nat.le_refl _)
  have h3 := fN_18 O h
  have h4 := O.GRb hh
  have h5 := O.rub
  have h6 := O.eng
  have h7 := mul_bd (a := σ 5) (b := (if σ 0 = 0 then 0 else GR σ h) + σ 6) (A := 99) (B := 18) (by omega) (by omega) (by split <;> omega) (by split <;> omega) (by omega)
  unfold fL ld
  omega
theorem M_freeAt {σ} (O : LOk σ) {i w f b : F32} {h : Int} (h0 : 0 ≤ h) (h1 : h < 400) {Q : F32 → F32 → F32 → F32 → Prop} (hq : ∀ i' w' f' b', Kp i i' → i' 27 = eI (fN σ h) → i' 28 = eI (fL σ h) → (∀ j, j < fN σ h → w' j = eI (fK σ h j)) → (∀ j, j < fN σ h → f' j = eI (fo σ (fK σ h) h j)) → (∀ j, j < fN σ h → b' j = eI (fB σ h j)) → Q i' w' f' b') : w_LongTrainModel_freeAt i (eF σ) w f b (eI h) Q := by
  unfold w_LongTrainModel_freeAt
  (try simp only [eI_lit, eI_neg, eI_add, eI_sub, eI_mul, eF_ap, upd_eF])
  refine M_free O (by omega) (by omega) (fun w' hw => ?_)
  refine M_stands O (n := fN σ h) (k := fK σ h) (Nat.le_trans (fN_18 O h) (by omega)) upd_s hw (fK_ok O h) h0 h1 (fun f' b' hf hb => ?_)
  exact hq _ _ _ _ ((Kp.rf.u (by omega)).u (by omega)) (by rw [upd_n (by omega), upd_s]; rfl) upd_s hw hf hb
def wN (σ : Nat → Int) (h : Int) : Nat := frn σ (hb σ h)
def wK (σ : Nat → Int) (h : Int) : Nat → Int := frk σ (hb σ h)
def wB (σ : Nat → Int) (h : Int) (j : Nat) : Int := br σ (wK σ h) (wN σ h) h j
theorem wN_18 {σ} (O : LOk σ) (h : Int) : wN σ h ≤ 18 := frn_18 O (hb_le O _)
theorem wK_ok {σ} (O : LOk σ) (h : Int) : KOk σ (wK σ h) (wN σ h) := KOk.fr O (hb_le O _)
theorem wB_bd {σ} (O : LOk σ) {h : Int} (hh : h ≤ 400) {j : Nat} (hj : j ≤ wN σ h) : -70000 ≤ wB σ h j ∧ wB σ h j ≤ 70000 := by
  have h1 := smdg_bd O (wK_ok O h) hh (i := wN σ h) (Nat.le_refl _)
  have h2 := smdg_bd O (wK_ok O h) hh (i := j) hj
  have h3 := wN_18 O h
  unfold wB br
  omega
theorem M_withAt {σ} (O : LOk σ) {i w f b : F32} {h : Int} (h0 : 0 ≤ h) (h1 : h < 400) {Q : F32 → F32 → F32 → F32 → Prop} (hq : ∀ i' w' f' b', Kp i i' → i' 27 = eI (wN σ h) → (∀ j, j < wN σ h → w' j = eI (wK σ h j)) → (∀ j, j < wN σ h → b' j = eI (wB σ h j)) → Q i' w' f' b') : w_LongTrainModel_withAt i (eF σ) w f b (eI h) Q := by
  unfold w_LongTrainModel_withAt
  refine M_free O (by omega) (by omega) (fun w' hw => ?_)
  refine M_stands O (n := wN σ h) (k := wK σ h) (Nat.le_trans (wN_18 O h) (by omega)) upd_s hw (wK_ok O h) h0 h1 (fun f' b' hf hb => ?_)
  exact hq _ _ _ _ ((Kp.rf.u (by omega)).u (by omega)) (by rw [upd_n (by omega), upd_s]; rfl) hw hb
theorem M_isUnit {σ : Nat → Int} (O : LOk σ) {x : Int} (hx : B31 x) {Q : Int32 → Prop} (h1 : 0 ≤ x → x < σ 0 → Q 1) (h0 : ¬ (0 ≤ x ∧ x < σ 0) → Q 0) : w_LongTrainModel_isUnit (eF σ) (eI x) Q := by
  have hu := O.u
  unfold w_LongTrainModel_isUnit
  (try simp only [eI_lit, eI_neg, eI_add, eI_sub, eI_mul, eF_ap, upd_eF])
  exact M_isIn hx (by (first | exact B31_s (by omega) (by omega) | exact B31_of _ | (constructor <;> omega))) (by (first | exact B31_s (by omega) (by omega) | exact B31_of _ | (constructor <;> omega))) (fun a b => h1 (by omega) (by omega)) (fun a => h0 (by omega))
theorem M_isHalt {σ : Nat → Int} (O : LOk σ) {x : Int} (hx : B31 x) {Q : Int32 → Prop} (h1 : 0 ≤ x → x < σ 1 → Q 1) (h0 : ¬ (0 ≤ x ∧ x < σ 1) → Q 0) : w_LongTrainModel_isHalt (eF σ) (eI x) Q := by
  have hu := O.hc
  unfold w_LongTrainModel_isHalt
  (try simp only [eI_lit, eI_neg, eI_add, eI_sub, eI_mul, eF_ap, upd_eF])
  exact M_isIn hx (by (first | exact B31_s (by omega) (by omega) | exact B31_of _ | (constructor <;> omega))) (by (first | exact B31_s (by omega) (by omega) | exact B31_of _ | (constructor <;> omega))) (fun a b => h1 (by omega) (by omega)) (fun a => h0 (by omega))
theorem M_isKind {σ : Nat → Int} (O : LOk σ) {x : Int} (hx : B31 x) {Q : Int32 → Prop} (h1 : 0 ≤ x → x < σ 3 → Q 1) (h0 : ¬ (0 ≤ x ∧ x < σ 3) → Q 0) : w_LongTrainModel_isKind (eF σ) (eI x) Q := by
  have hu := O.kc
  unfold w_LongTrainModel_isKind
  (try simp only [eI_lit, eI_neg, eI_add, eI_sub, eI_mul, eF_ap, upd_eF])
  exact M_isIn hx (by (first | exact B31_s (by omega) (by omega) | exact B31_of _ | (constructor <;> omega))) (by (first | exact B31_s (by omega) (by omega) | exact B31_of _ | (constructor <;> omega))) (fun a b => h1 (by omega) (by omega)) (fun a => h0 (by omega))
theorem M_areUnits {σ : Nat → Int} (O : LOk σ) {x y : Int} (hx : B31 x) (hy : B31 y) {Q : Int32 → Prop} (h1 : 0 ≤ x → x ≤ y → y < σ 0 → Q 1) (h0 : ¬ (0 ≤ x ∧ x ≤ y ∧ y < σ 0) → Q 0) : w_LongTrainModel_areUnits (eF σ) (eI x) (eI y) Q := by
  unfold w_LongTrainModel_areUnits
  refine M_isUnit O hx (fun a b => ?_) (fun a => ?_)
  · (first | refine z1T ?_ | refine z1N ?_)
    refine M_isUnit O hy (fun c d => ?_) (fun c => ?_)
    · (first | refine z1T ?_ | refine z1N ?_)
      exact q_lt hy hx (fun h => h0 (by omega)) (fun h => h1 a h d)
    · (first | refine z0T ?_ | refine z0N ?_); exact h0 (by omega)
  · (first | refine z0T ?_ | refine z0N ?_); exact h0 (by omega)
theorem M_isRun {x : Int} (hx : B31 x) {Q : Int32 → Prop} (h1 : 0 ≤ x → x ≤ 99999 → Q 1) (h0 : ¬ (0 ≤ x ∧ x ≤ 99999) → Q 0) : w_LongTrainModel_isRun (eI x) Q := by
  unfold w_LongTrainModel_isRun
  (try simp only [eI_lit, eI_neg, eI_add, eI_sub, eI_mul, eF_ap, upd_eF])
  exact M_isIn hx (by (first | exact B31_s (by omega) (by omega) | exact B31_of _ | (constructor <;> omega))) (by (first | exact B31_s (by omega) (by omega) | exact B31_of _ | (constructor <;> omega))) h1 h0
/-! climb -/
def rn (σ : Nat → Int) (a e : Int) (sands : Int) (m : Nat) : Int := e + sm (fun j => σ 4 - fL σ (a + j + 1) + (if (j : Int) + 1 ≤ sands then σ 7 else 0)) m
theorem rn_bd {σ} (O : LOk σ) {a e sands : Int} (ha : 0 ≤ a) (he : 0 ≤ e) (he2 : e ≤ 99999) {m : Nat} (hm : a + m < 400) : -100000000 ≤ rn σ a e sands m ∧ rn σ a e sands m ≤ 100000000 := by
  have hp := O.pull
  have hs := O.sand
  have := sm_bd (f := fun j => σ 4 - fL σ (a + j + 1) + (if (j : Int) + 1 ≤ sands then σ 7 else 0)) (lo := -80000) (hi := 80000) (n := m) (fun j hj => by
    have h1 := fL_bd O (h := a + j + 1) (by omega)
    split <;> omega)
  unfold rn
  omega
theorem rn_s (σ a e sands m) : rn σ a e sands (m + 1) = rn σ a e sands m + (σ 4 - fL σ (a + m + 1) + (if (m : Int) + 1 ≤ sands then σ 7 else 0)) := by simp only [rn, sm]; omega
noncomputable def comesS (σ : Nat → Int) (a b e sands : Int) : Int := a + lf (fun m => rn σ a e sands (m + 1) < 0) (b - a).toNat
theorem M_comes {σ} (O : LOk σ) {i w f b : F32} {x y e s : Int} (hx : 0 ≤ x) (hxy : x ≤ y) (hy : y < σ 0) (he : 0 ≤ e) (he2 : e ≤ 99999) (hs : B31 s) {Q : Int32 → F32 → F32 → F32 → F32 → Prop} (hq : ∀ i' w' f' b', Kp i i' → Q (eI (comesS σ x y e s)) i' w' f' b') : w_LongTrainModel_comes i (eF σ) w f b (eI x) (eI y) (eI e) (eI s) Q := by
  have hu := O.u
  unfold w_LongTrainModel_comes
  (try simp only [eI_lit, eI_neg, eI_add, eI_sub, eI_mul, eF_ap, upd_eF])
  refine lg_LongTrainModel_comes_8 (G := Nat) (fun g x5 x6 i' w' f' b' => x + g ≤ y ∧ x5 = eI (rn σ x e s g) ∧ x6 = eI (x + g + 1) ∧ Kp i i' ∧ ∀ m, m < g → ¬ rn σ x e s (m + 1) < 0) (fun g => (y - x).toNat - g) ?_ 0 ⟨by omega, by simp [rn, sm], by congr 1; omega, Kp.rf, fun m hm => absurd hm (Nat.not_lt_zero _)⟩
  rintro kr g x5 x6 i' w' f' b' ⟨hg, rfl, rfl, hk, hnb⟩ hstep
  unfold b_LongTrainModel_comes_8
  (try simp only [eI_lit, eI_neg, eI_add, eI_sub, eI_mul, eF_ap, upd_eF])
  refine q_lt (by (first | exact B31_s (by omega) (by omega) | exact B31_of _ | (constructor <;> omega))) (by (first | exact B31_s (by omega) (by omega) | exact B31_of _ | (constructor <;> omega))) (fun h => ?_) (fun h => ?_)
  · have e1 : comesS σ x y e s = y := by
      unfold comesS
      rw [lf_eq (m := (y - x).toNat) (Nat.le_refl _) (fun j hj => hnb j (by omega)) (fun h => absurd h (Nat.lt_irrefl _))]
      omega
    have := hq i' w' f' b' hk
    rw [e1] at this
    exact this
  · refine M_freeAt O (by omega) (by omega) (fun i2 w2 f2 b2 k2 hn hl hw hf hb => ?_)
    rw [hl]
    (try simp only [eI_lit, eI_neg, eI_add, eI_sub, eI_mul, eF_ap, upd_eF])
    have hbd := rn_bd O (sands := s) (m := g + 1) hx he he2 (by omega)
    have hr := rn_s σ x e s g
    have go : 0 ≤ rn σ x e s (g + 1) → kr (eI (rn σ x e s (g + 1))) (eI (x + g + 1 + 1)) i2 w2 f2 b2 := fun h2 => by
      refine hstep (g + 1) _ _ _ _ _ _ (by omega) ⟨by omega, rfl, by congr 1; omega, hk.tr k2, fun m hm => ?_⟩
      by_cases hmg : m = g
      · subst hmg; omega
      · exact hnb m (by omega)
    have no : rn σ x e s (g + 1) < 0 → Q (eI (x + g + 1 - 1)) i2 w2 f2 b2 := fun h2 => by
      have e1 : comesS σ x y e s = x + g + 1 - 1 := by
        unfold comesS
        rw [lf_eq (m := g) (by omega) hnb (fun _ => h2)]
        omega
      have := hq i2 w2 f2 b2 (hk.tr k2)
      rw [e1] at this
      exact this
    refine q_lt hs (by (first | exact B31_s (by omega) (by omega) | exact B31_of _ | (constructor <;> omega))) (fun h3 => ?_) (fun h3 => ?_)
    · rw [if_neg (by omega)] at hr
      rw [← hr]
      exact q_le (by (first | exact B31_s (by omega) (by omega) | exact B31_of _ | (constructor <;> omega))) (by (first | exact B31_s (by omega) (by omega) | exact B31_of _ | (constructor <;> omega))) go no
    · rw [if_pos (by omega)] at hr
      rw [← hr]
      exact q_le (by (first | exact B31_s (by omega) (by omega) | exact B31_of _ | (constructor <;> omega))) (by (first | exact B31_s (by omega) (by omega) | exact B31_of _ | (constructor <;> omega))) go no
noncomputable def climbS (σ : Nat → Int) (x y e : Int) : Int := if 0 ≤ x ∧ x ≤ y ∧ y < σ 0 ∧ 0 ≤ e ∧ e ≤ 99999 then comesS σ x y e 0 else -1
theorem M_climb {σ} (O : LOk σ) {i w f b : F32} {x y e : Int} (hx : B31 x) (hy : B31 y) (he : B31 e) {Q : Int32 → F32 → F32 → F32 → F32 → Prop} (hq : ∀ i' w' f' b', KP i i' → Q (eI (climbS σ x y e)) i' w' f' b') : w_LongTrainModel_climb i (eF σ) w f b (eI x) (eI y) (eI e) Q := by
  unfold w_LongTrainModel_climb
  unfold climbS at hq
  refine M_areUnits O hx hy (fun a b c => ?_) (fun a => ?_)
  · (first | refine z1T ?_ | refine z1N ?_)
    refine M_isRun he (fun d g => ?_) (fun d => ?_)
    · (first | refine z1T ?_ | refine z1N ?_)
      rw [if_pos (by omega)] at hq
      exact M_comes O a b c d g (by (first | exact B31_s (by omega) (by omega) | exact B31_of _ | (constructor <;> omega))) (fun i' w' f' b' k => hq _ _ _ _ k.P)
    · (first | refine z0T ?_ | refine z0N ?_); rw [if_neg (by omega)] at hq; exact hq _ _ _ _ KP.u0
  · (first | refine z0T ?_ | refine z0N ?_); rw [if_neg (by omega)] at hq; exact hq _ _ _ _ KP.u0
/-! needed -/
def nd (σ : Nat → Int) (a : Int) : Nat → Int
  | 0 => 0
  | m + 1 => max (nd σ a m) (-(rn σ a 0 0 (m + 1)))
theorem nd_bd {σ} (O : LOk σ) {a : Int} (ha : 0 ≤ a) : ∀ {m : Nat}, a + m < 400 → 0 ≤ nd σ a m ∧ nd σ a m ≤ 100000000
  | 0, _ => ⟨by simp [nd], by simp [nd]⟩
  | m + 1, h => by
    have h1 := nd_bd O ha (m := m) (by omega)
    have h2 := rn_bd O (e := 0) (sands := 0) (m := m + 1) ha (by omega) (by omega) h
    rw [nd]
    omega
theorem M_needed {σ} (O : LOk σ) {i w f b : F32} {x y : Int} (hx : B31 x) (hy : B31 y) {Q : Int32 → F32 → F32 → F32 → F32 → Prop} (hq : ∀ i' w' f' b', KP i i' → Q (eI (if 0 ≤ x ∧ x ≤ y ∧ y < σ 0 then nd σ x (y - x).toNat else -1)) i' w' f' b') : w_LongTrainModel_needed i (eF σ) w f b (eI x) (eI y) Q := by
  have hu := O.u
  unfold w_LongTrainModel_needed
  refine M_areUnits O hx hy (fun a b c => ?_) (fun a => ?_)
  · (first | refine z1T ?_ | refine z1N ?_)
    rw [if_pos (by omega)] at hq
    (try simp only [eI_lit, eI_neg, eI_add, eI_sub, eI_mul, eF_ap, upd_eF])
    refine lg_LongTrainModel_needed_26 (G := Nat) (fun g x3 x4 x5 i' w' f' b' => x + g ≤ y ∧ x3 = eI (rn σ x 0 0 g) ∧ x4 = eI (nd σ x g) ∧ x5 = eI (x + g + 1) ∧ Kp (upd i 0 (eI 0)) i') (fun g => (y - x).toNat - g) ?_ 0 ⟨by omega, by simp [rn, sm], rfl, by congr 1; omega, Kp.rf⟩
    rintro kr g x3 x4 x5 i' w' f' b' ⟨hg, rfl, rfl, rfl, hk⟩ hstep
    unfold b_LongTrainModel_needed_26
    (try simp only [eI_lit, eI_neg, eI_add, eI_sub, eI_mul, eF_ap, upd_eF])
    refine q_lt (by (first | exact B31_s (by omega) (by omega) | exact B31_of _ | (constructor <;> omega))) (by (first | exact B31_s (by omega) (by omega) | exact B31_of _ | (constructor <;> omega))) (fun h => ?_) (fun h => ?_)
    · have e : (y - x).toNat = g := by omega
      rw [e] at hq
      exact hq _ _ _ _ hk.P
    · refine M_freeAt O (by omega) (by omega) (fun i2 w2 f2 b2 k2 hn hl hw hf hb => ?_)
      rw [hl]
      (try simp only [eI_lit, eI_neg, eI_add, eI_sub, eI_mul, eF_ap, upd_eF])
      have hbd := rn_bd O (e := 0) (sands := 0) (m := g + 1) a (by omega) (by omega) (by omega)
      have hnd := nd_bd O (m := g) a (by omega)
      have hr := rn_s σ x 0 0 g
      rw [if_neg (by omega)] at hr
      have hr2 : rn σ x 0 0 g + (σ 4 - fL σ (x + g + 1)) = rn σ x 0 0 (g + 1) := by omega
      rw [hr2]
      refine q_le (by (first | exact B31_s (by omega) (by omega) | exact B31_of _ | (constructor <;> omega))) (by (first | exact B31_s (by omega) (by omega) | exact B31_of _ | (constructor <;> omega))) (fun h2 => ?_) (fun h2 => ?_)
      · refine hstep (g + 1) _ _ _ _ _ _ _ (by omega) ⟨by omega, rfl, ?_, by congr 1; omega, hk.tr k2⟩
        rw [nd]; congr 1; omega
      · refine hstep (g + 1) _ _ _ _ _ _ _ (by omega) ⟨by omega, rfl, ?_, by congr 1; omega, hk.tr k2⟩
        rw [nd]; congr 1; omega
  · (first | refine z0T ?_ | refine z0N ?_); rw [if_neg (by omega)] at hq; exact hq _ _ _ _ KP.u0
/-! sanded -/
noncomputable def sandS (σ : Nat → Int) (x y e : Int) : Int :=
  if 0 ≤ x ∧ x ≤ y ∧ y < σ 0 ∧ 0 ≤ e ∧ e ≤ 99999 then
    (if lf (fun n => comesS σ x y e n = y) ((y - x).toNat + 1) ≤ (y - x).toNat then (lf (fun n => comesS σ x y e n = y) ((y - x).toNat + 1) : Int) else -1) else -1
theorem comesS_bd {σ : Nat → Int} {x y e s : Int} (hxy : x ≤ y) : x ≤ comesS σ x y e s ∧ comesS σ x y e s ≤ y := by
  have := (lf_sp (fun m => rn σ x e s (m + 1) < 0) (y - x).toNat).1
  unfold comesS
  omega
theorem M_sanded {σ} (O : LOk σ) {i w f b : F32} {x y e : Int} (hx : B31 x) (hy : B31 y) (he : B31 e) {Q : Int32 → F32 → F32 → F32 → F32 → Prop} (hq : ∀ i' w' f' b', KP i i' → Q (eI (sandS σ x y e)) i' w' f' b') : w_LongTrainModel_sanded i (eF σ) w f b (eI x) (eI y) (eI e) Q := by
  have hu := O.u
  unfold w_LongTrainModel_sanded
  unfold sandS at hq
  refine M_areUnits O hx hy (fun a b c => ?_) (fun a => ?_)
  · (first | refine z1T ?_ | refine z1N ?_)
    refine M_isRun he (fun d g => ?_) (fun d => ?_)
    · (first | refine z1T ?_ | refine z1N ?_)
      rw [if_pos (by omega)] at hq
      (try simp only [eI_lit, eI_neg, eI_add, eI_sub, eI_mul, eF_ap, upd_eF])
      refine lg_LongTrainModel_sanded_26 (G := Nat) (fun g x4 i' w' f' b' => x + g ≤ y + 1 ∧ x4 = eI g ∧ Kp (upd i 0 (eI 0)) i' ∧ ∀ m : Nat, m < g → ¬ comesS σ x y e m = y) (fun g => (y - x).toNat + 1 - g) ?_ 0 ⟨by omega, rfl, Kp.rf, fun m hm => absurd hm (Nat.not_lt_zero _)⟩
      rintro kr g x4 i' w' f' b' ⟨hg, rfl, hk, hnb⟩ hstep
      unfold b_LongTrainModel_sanded_26
      (try simp only [eI_lit, eI_neg, eI_add, eI_sub, eI_mul, eF_ap, upd_eF])
      refine q_lt (by (first | exact B31_s (by omega) (by omega) | exact B31_of _ | (constructor <;> omega))) (by (first | exact B31_s (by omega) (by omega) | exact B31_of _ | (constructor <;> omega))) (fun h => ?_) (fun h => ?_)
      · have e1 := lf_eq (P := fun n : Nat => comesS σ x y e n = y) (n := (y - x).toNat + 1) (m := (y - x).toNat + 1) (Nat.le_refl _) (fun j hj => hnb j (by omega)) (fun h => absurd h (Nat.lt_irrefl _))
        rw [e1, if_neg (by omega)] at hq
        exact hq _ _ _ _ hk.P
      · have cb := comesS_bd (σ := σ) (e := e) (s := g) b
        refine M_comes O a b c d (by omega) (by (first | exact B31_s (by omega) (by omega) | exact B31_of _ | (constructor <;> omega))) (fun i2 w2 f2 b2 k2 => ?_)
        refine q_ne (by (first | exact B31_s (by omega) (by omega) | exact B31_of _ | (constructor <;> omega))) hy (fun h2 => ?_) (fun h2 => ?_)
        · refine hstep (g + 1) _ _ _ _ _ (by omega) ⟨by omega, by congr 1, hk.tr k2, fun m hm => ?_⟩
          by_cases hmg : m = g
          · subst hmg; exact h2
          · exact hnb m (by omega)
        · have e1 := lf_eq (P := fun n : Nat => comesS σ x y e n = y) (n := (y - x).toNat + 1) (m := g) (by omega) hnb (fun _ => h2)
          rw [e1, if_pos (by omega)] at hq
          exact hq _ _ _ _ (hk.tr k2).P
    · (first | refine z0T ?_ | refine z0N ?_); rw [if_neg (by omega)] at hq; exact hq _ _ _ _ KP.u0
  · (first | refine z0T ?_ | refine z0N ?_); rw [if_neg (by omega)] at hq; exact hq _ _ _ _ KP.u0
