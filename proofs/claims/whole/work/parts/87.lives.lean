/-! lives -/
abbrev LR (X : RW) (i w st wo : F32) : Prop :=
  (i 27 = eI X.n) ∧
  (∀ j, j < X.n → w j = eI (X.k j)) ∧
  (∀ j, j < X.n → st j = eI (X.s j)) ∧
  (∀ j, j < X.n → wo j = eI (X.w j))
theorem LR.n {X : RW} {i w st wo : F32} (h : LR X i w st wo) : i 27 = eI X.n := h.1
theorem LR.k {X : RW} {i w st wo : F32} (h : LR X i w st wo) : ∀ j, j < X.n → w j = eI (X.k j) := h.2.1
theorem LR.s {X : RW} {i w st wo : F32} (h : LR X i w st wo) : ∀ j, j < X.n → st j = eI (X.s j) := h.2.2.1
theorem LR.w {X : RW} {i w st wo : F32} (h : LR X i w st wo) : ∀ j, j < X.n → wo j = eI (X.w j) := h.2.2.2
theorem M_inserts {X : RW} {i w st wo : F32} (R : LR X i w st wo) {p : Nat} {k s : Int} (hn : X.n < 20) (hp : p ≤ X.n) {Q : F32 → F32 → F32 → F32 → Prop} (hq : ∀ w' st' wo', LR (X.ins p k s) (upd i 27 (eI ((X.n + 1 : Nat) : Int))) w' st' wo' → Q (upd i 27 (eI ((X.n + 1 : Nat) : Int))) w' st' wo') : w_LongTrainModel_inserts i w st wo (eI p) (eI k) (eI s) Q := by
  unfold w_LongTrainModel_inserts
  rw [R.n]
  refine lg_LongTrainModel_inserts_6 (G := Nat) (fun g x w' st' wo' => p ≤ g ∧ g ≤ X.n ∧ x = eI g ∧ (∀ j, j ≤ g → w' j = w j ∧ st' j = st j ∧ wo' j = wo j) ∧ ∀ j, g < j → j ≤ X.n → w' j = w (j - 1) ∧ st' j = st (j - 1) ∧ wo' j = wo (j - 1)) (fun g => g) ?_ X.n ⟨hp, by omega, rfl, fun j _ => ⟨rfl, rfl, rfl⟩, by intro j; omega⟩
  rintro kr g x w' st' wo' ⟨h1, h2, rfl, h3, h4⟩ hs
  unfold b_LongTrainModel_inserts_6
  (try simp only [eI_lit, eI_neg, eI_add, eI_sub, eI_mul, eF_ap, upd_eF])
  refine q_le (by (first | exact B31_s (by omega) (by omega) | exact B31_of _ | (constructor <;> omega))) (by (first | exact B31_s (by omega) (by omega) | exact B31_of _ | (constructor <;> omega))) (fun h => ?_) (fun h => ?_)
  · have eg : g = p := by omega
    subst eg
    refine And.intro (eI_in (by omega) (by omega) (by omega)) ?_; refine And.intro (eI_in (by omega) (by omega) (by omega)) ?_; refine And.intro (eI_in (by omega) (by omega) (by omega)) ?_; (try simp (disch := omega) only [eI_cl, Int.toNat_natCast])
    have e1 : (X.n : Int) + 1 = ((X.n + 1 : Nat) : Int) := by omega
    rw [e1]
    have ins : ∀ (r r' : F32) (f : Nat → Int) (v : Int), (∀ j, j < X.n → r j = eI (f j)) → (∀ j, j ≤ g → r' j = r j) → (∀ j, g < j → j ≤ X.n → r' j = r (j - 1)) → ∀ j, j < X.n + 1 → upd r' g (eI v) j = eI (insF f g v j) := fun r r' f v hr ha hb j hj => by
      by_cases hjg : j = g
      · subst hjg; rw [upd_s, insF_eq]
      · rw [upd_n hjg]
        by_cases hlt : j < g
        · rw [insF_lt hlt, ha j (by omega)]; exact hr j (by omega)
        · rw [insF_gt (by omega), hb j (by omega) (by omega)]; exact hr (j - 1) (by omega)
    refine hq _ _ _ ⟨upd_s, ?_, ?_, ?_⟩
    · exact ins w w' X.k k R.k (fun j hj => (h3 j hj).1) (fun j a b => (h4 j a b).1)
    · exact ins st st' X.s s R.s (fun j hj => (h3 j hj).2.1) (fun j a b => (h4 j a b).2.1)
    · exact ins wo wo' X.w 0 R.w (fun j hj => (h3 j hj).2.2) (fun j a b => (h4 j a b).2.2)
  · have e1 : ((g : Int) - 1).toNat = g - 1 := by omega
    refine And.intro (eI_in (by omega) (by omega) (by omega)) ?_; refine And.intro (eI_in (by omega) (by omega) (by omega)) ?_; refine And.intro (eI_in (by omega) (by omega) (by omega)) ?_; refine And.intro (eI_in (by omega) (by omega) (by omega)) ?_; refine And.intro (eI_in (by omega) (by omega) (by omega)) ?_; refine And.intro (eI_in (by omega) (by omega) (by omega)) ?_; (try simp (disch := omega) only [eI_cl, Int.toNat_natCast])
    rw [e1]
    refine hs (g - 1) _ _ _ _ (by omega) ⟨by omega, by omega, by congr 1; omega, fun j hj => ?_, fun j hj hjn => ?_⟩
    · rw [upd_n (by omega), upd_n (by omega), upd_n (by omega)]; exact h3 j (by omega)
    · by_cases hjg : j = g
      · subst hjg; rw [upd_s, upd_s, upd_s]; exact h3 _ (by omega)
      · rw [upd_n hjg, upd_n hjg, upd_n hjg]; exact h4 j (by omega) hjn
theorem LR.congr {X Y : RW} {i w st wo : F32} (h : RWeq X Y) (R : LR X i w st wo) : LR Y i w st wo := by
  obtain ⟨hn, hj⟩ := h
  refine ⟨hn ▸ R.n, fun j hjn => ?_, fun j hjn => ?_, fun j hjn => ?_⟩
  · rw [R.k j (by omega), (hj j (by omega)).1]
  · rw [R.s j (by omega), (hj j (by omega)).2.1]
  · rw [R.w j (by omega), (hj j (by omega)).2.2.1]
theorem mkX_app {σ : Nat → Int} {n : Nat} {k k' : Nat → Int} {kd : Int} (h : ∀ j, j < n → k' j = k j) (h2 : k' n = kd) : RWeq ((mkX σ n k).ins n kd (ST σ kd)) (mkX σ (n + 1) k') := by
  refine ⟨rfl, fun j hj => ?_⟩
  have hj' : j < n + 1 := hj
  show insF k n kd j = k' j ∧ insF (fun j => ST σ (k j)) n (ST σ kd) j = ST σ (k' j) ∧ insF (fun _ => (0 : Int)) n 0 j = 0 ∧ insF (fun _ => (0 : Int)) n 0 j = 0 ∧ insF (fun _ => (0 : Int)) n 0 j = 0
  by_cases hjn : j = n
  · subst hjn; simp only [insF_eq, h2]; exact ⟨trivial, trivial, trivial, trivial, trivial⟩
  · have hlt : j < n := by omega
    simp only [insF_lt hlt, h j hlt]; exact ⟨trivial, trivial, trivial, trivial, trivial⟩
theorem M_starts {σ : Nat → Int} (O : LOk σ) {i w st wo : F32} {Q : F32 → F32 → F32 → F32 → Prop} (hq : ∀ w' st' wo', LR (FX σ 0) (upd i 27 (eI (frn σ 0))) w' st' wo' → Q (upd i 27 (eI (frn σ 0))) w' st' wo') : w_LongTrainModel_starts i (eF σ) w st wo Q := by
  have hfc := O.fc
  have hkc := O.kc
  unfold w_LongTrainModel_starts
  refine lg_LongTrainModel_starts_7 (G := Nat) (fun g x i' w' st' wo' => g ≤ (σ 10).toNat ∧ x = eI g ∧ i' = upd i 27 (eI g) ∧ LR (mkX σ g (frk σ 0)) i' w' st' wo') (fun g => (σ 10).toNat - g) ?_ 0 ⟨by omega, rfl, rfl, ⟨upd_s, fun j hj => absurd hj (Nat.not_lt_zero _), fun j hj => absurd hj (Nat.not_lt_zero _), fun j hj => absurd hj (Nat.not_lt_zero _)⟩⟩
  rintro kr g x i' w' st' wo' ⟨hg, rfl, rfl, R⟩ hs
  unfold b_LongTrainModel_starts_7
  (try simp only [eI_lit, eI_neg, eI_add, eI_sub, eI_mul, eF_ap, upd_eF])
  refine q_le (by (first | exact B31_s (by omega) (by omega) | exact B31_of _ | (constructor <;> omega))) (by (first | exact B31_s (by omega) (by omega) | exact B31_of _ | (constructor <;> omega))) (fun h => ?_) (fun h => ?_)
  · have eg : g = frn σ 0 := by show g = (σ 10).toNat; omega
    subst eg
    exact hq _ _ _ R
  · have ht := O.tr g (by omega)
    have e1 : (475 + (g : Int)).toNat = 475 + g := by omega
    refine And.intro (eI_in (by omega) (by omega) (by omega)) ?_; refine And.intro (eI_in (by omega) (by omega) (by omega)) ?_; (try simp (disch := omega) only [eI_cl, Int.toNat_natCast])
    rw [e1]
    refine M_strengthOf ht.1 (by omega) ?_
    refine M_inserts R (by show g < 20; omega) (Nat.le_refl _) (fun w2 st2 wo2 R2 => ?_)
    rw [upd_upd] at R2 ⊢
    exact hs (g + 1) _ _ _ _ _ (by omega) ⟨by omega, by congr 1, rfl, R2.congr (mkX_app (fun _ _ => rfl) rfl)⟩
def wrX (σ : Nat → Int) (X : RW) (h : Int) : RW := ⟨X.n, X.k, X.s, fun j => if j < X.n then X.w j + ps (br σ X.k X.n h j) else X.w j, X.p, X.h⟩
noncomputable def ptL (σ : Nat → Int) (X : RW) (h : Int) : Nat := lf (Bad σ X.s X.w (br σ X.k X.n h)) X.n
theorem M_parts {σ : Nat → Int} (O : LOk σ) {X : RW} {i f w b st wo : F32} (R : LR X i w st wo) (hn : X.n ≤ 20) (hk : KOk σ X.k X.n) {h : Int} (h0 : 0 ≤ h) (h1 : h < 400) {Q : Int32 → F32 → F32 → F32 → F32 → Prop} (hp : ptL σ X h < X.n → ∀ i' f' b', (∀ q, q ≠ 28 → i' q = i q) → Q 1 i' f' b' wo) (hq : ptL σ X h = X.n → ∀ i' f' b' wo', (∀ q, q ≠ 28 → i' q = i q) → LR (wrX σ X h) i' w st wo' → Q 0 i' f' b' wo') : w_LongTrainModel_parts i f w (eF σ) b st wo (eI h) Q := by
  unfold w_LongTrainModel_parts
  refine M_stands O hn R.n R.k hk h0 h1 (fun f' b' hf hb => ?_)
  have hi : ∀ q, q ≠ 28 → upd i 28 (eI (ld σ X.k X.n h)) q = i q := fun q hq => upd_n hq
  generalize hI : upd i 28 (eI (ld σ X.k X.n h)) = i' at *
  have i27 : i' 27 = eI X.n := by rw [hi 27 (by omega)]; exact R.n
  refine lg_LongTrainModel_parts_7 (G := Nat) (fun g x => g ≤ X.n ∧ x = eI g ∧ ∀ j, j < g → ¬ Bad σ X.s X.w (br σ X.k X.n h) j) (fun g => X.n - g) ?_ 0 ⟨by omega, rfl, fun j hj => absurd hj (Nat.not_lt_zero _)⟩
  rintro kr g x ⟨hg, rfl, hnb⟩ hs
  unfold b_LongTrainModel_parts_7
  rw [i27]
  refine q_le (by (first | exact B31_s (by omega) (by omega) | exact B31_of _ | (constructor <;> omega))) (by (first | exact B31_s (by omega) (by omega) | exact B31_of _ | (constructor <;> omega))) (fun h2 => ?_) (fun h2 => ?_)
  · have eg : g = X.n := by omega
    subst eg
    have hfin := hq (lf_eq (Nat.le_refl _) hnb (fun h => absurd h (Nat.lt_irrefl _)))
    refine lg_LongTrainModel_parts_63 (G := Nat) (fun g x wo' => g ≤ X.n ∧ x = eI g ∧ ∀ j, j < X.n → wo' j = eI (if j < g then X.w j + ps (br σ X.k X.n h j) else X.w j)) (fun g => X.n - g) ?_ 0 ⟨by omega, rfl, fun j hj => by rw [if_neg (by omega)]; exact R.w j hj⟩
    rintro kr2 g2 x wo' ⟨hg2, rfl, hwo⟩ hs2
    unfold b_LongTrainModel_parts_63
    rw [i27]
    refine q_le (by (first | exact B31_s (by omega) (by omega) | exact B31_of _ | (constructor <;> omega))) (by (first | exact B31_s (by omega) (by omega) | exact B31_of _ | (constructor <;> omega))) (fun h3 => ?_) (fun h3 => ?_)
    · have eg2 : g2 = X.n := by omega
      subst eg2
      refine hfin _ _ _ _ hi ⟨i27, R.k, R.s, fun j hj => ?_⟩
      exact hwo j hj
    · have hwg := hwo g2 (by omega)
      rw [if_neg (Nat.lt_irrefl _)] at hwg
      refine And.intro (eI_in (by omega) (by omega) (by omega)) ?_; refine And.intro (eI_in (by omega) (by omega) (by omega)) ?_; (try simp (disch := omega) only [eI_cl, Int.toNat_natCast])
      rw [hwg, hb g2 (by omega)]
      have step : ∀ v : Int32, v = eI (X.w g2 + ps (br σ X.k X.n h g2)) → kr2 (eI g2 + 1) (upd wo' g2 v) := fun v hv => by
        refine hs2 (g2 + 1) _ _ (by omega) ⟨by omega, by (try simp only [eI_lit, eI_neg, eI_add, eI_sub, eI_mul, eF_ap, upd_eF]); congr 1, fun j hj => ?_⟩
        by_cases hjg : j = g2
        · subst hjg; rw [upd_s, if_pos (by omega)]; exact hv
        · rw [upd_n hjg, hwo j hj]
          by_cases hlt2 : j < g2
          · rw [if_pos hlt2, if_pos (by omega)]
          · rw [if_neg hlt2, if_neg (by omega)]
      refine ⟨fun h4 => ?_, fun h4 => ?_⟩
      · refine And.intro (eI_in (by omega) (by omega) (by omega)) ?_
        refine step _ ?_
        unfold ps
        rw [if_neg (Int32.not_lt.mpr h4)]; (try simp only [eI_lit, eI_neg, eI_add, eI_sub, eI_mul, eF_ap, upd_eF])
      · refine And.intro (eI_in (by omega) (by omega) (by omega)) ?_; refine And.intro (eI_in (by omega) (by omega) (by omega)) ?_
        refine step _ ?_
        unfold ps
        rw [if_pos (Int32.not_le.mp h4)]; (try simp only [eI_lit, eI_neg, eI_add, eI_sub, eI_mul, eF_ap, upd_eF])
  · have fin : Bad σ X.s X.w (br σ X.k X.n h) g → Q 1 i' f' b' wo := fun hB => by
      have e : ptL σ X h = g := lf_eq hg hnb (fun _ => hB)
      exact hp (by omega) _ _ _ hi
    refine And.intro (eI_in (by omega) (by omega) (by omega)) ?_; refine And.intro (eI_in (by omega) (by omega) (by omega)) ?_; (try simp (disch := omega) only [eI_cl, Int.toNat_natCast])
    rw [R.s g (by omega), hb g (by omega), R.w g (by omega)]
    refine ⟨fun h3 => fin (Or.inl h3), fun h3 => ?_⟩
    refine And.intro (eI_in (by omega) (by omega) (by omega)) ?_; refine And.intro (eI_in (by omega) (by omega) (by omega)) ?_; (try simp only [eI_lit, eI_neg, eI_add, eI_sub, eI_mul, eF_ap, upd_eF])
    refine ⟨fun h4 => ?_, fun h4 => fin (Or.inr (Int32.not_le.mp h4))⟩
    refine hs (g + 1) _ (by omega) ⟨by omega, by congr 1, fun j hj => ?_⟩
    by_cases hjg : j = g
    · subst hjg
      rintro (h5 | h5)
      · exact h3 h5
      · exact absurd h4 (Int32.not_le.mpr h5)
    · exact hnb j (by omega)
/-- a life: place by pl -/
noncomputable def lvs (σ : Nat → Int) (pl : Nat → RW → Int → Nat) : Nat → Nat → RW → Nat → Nat
  | 0, _, _, n => n
  | f + 1, g, X, n => if ptL σ X ((g : Int) + 1) < X.n then n else if 0 ≤ adN σ (hb σ g) ((g : Int) + 1) then lvs σ pl f (g + 1) ((wrX σ X ((g : Int) + 1)).ins (pl n (wrX σ X ((g : Int) + 1)) (adN σ (hb σ g) ((g : Int) + 1))) (adN σ (hb σ g) ((g : Int) + 1)) (ST σ (adN σ (hb σ g) ((g : Int) + 1)))) (n + 1) else lvs σ pl f (g + 1) (wrX σ X ((g : Int) + 1)) n
noncomputable def plcR (σ : Nat → Int) (rule : Int) (pc : Nat → Nat) (n : Nat) (X : RW) (a : Int) : Nat := if rule = 1 then 0 else if rule = 3 ∧ n < 4 then pc n else if rule = 2 then lf (fun j => eI (X.s j) < eI (ST σ a)) X.n else X.n
theorem M_placeBy {σ : Nat → Int} (O : LOk σ) {X : RW} {i w st wo pr : F32} (R : LR X i w st wo) (hn : X.n ≤ 20) {rule : Int} (hr : 0 ≤ rule ∧ rule ≤ 3) {pc : Nat → Nat} (hpc : rule = 3 → ∀ q, q < 4 → pr q = eI (pc q)) {n : Nat} (hn2 : n ≤ 400) {a : Int} (ha : 0 ≤ a) (ha2 : a < σ 3) {Q : Int32 → Prop} (hq : Q (eI (plcR σ rule pc n X a))) : w_LongTrainModel_placeBy i pr st (eF σ) (eI rule) (eI n) (eI a) Q := by
  have hkc := O.kc
  unfold w_LongTrainModel_placeBy
  unfold plcR at hq
  have loop : rule = 0 ∨ rule = 2 ∨ (rule = 3 ∧ 4 ≤ n) → j_LongTrainModel_placeBy_24 i st (eF σ) (eI rule) (eI a) Q := fun hc => by
    unfold j_LongTrainModel_placeBy_24
    rw [if_neg (by omega), if_neg (by omega)] at hq
    rw [R.n]
    refine lg_LongTrainModel_placeBy_27 (G := Nat) (fun g x => g ≤ X.n ∧ x = eI g ∧ (rule = 2 → ∀ j, j < g → ¬ eI (X.s j) < eI (ST σ a))) (fun g => X.n - g) ?_ 0 ⟨by omega, rfl, fun _ j hj => absurd hj (Nat.not_lt_zero _)⟩
    rintro kr g x ⟨hg, rfl, hnb⟩ hs
    unfold b_LongTrainModel_placeBy_27
    rw [R.n]
    refine q_le (by (first | exact B31_s (by omega) (by omega) | exact B31_of _ | (constructor <;> omega))) (by (first | exact B31_s (by omega) (by omega) | exact B31_of _ | (constructor <;> omega))) (fun h => ?_) (fun h => ?_)
    · by_cases h2 : rule = 2
      · rw [if_pos h2] at hq
        have e : lf (fun j => eI (X.s j) < eI (ST σ a)) X.n = X.n := lf_eq (Nat.le_refl _) (fun j hj => hnb h2 j (by omega)) (fun h => absurd h (Nat.lt_irrefl _))
        rw [e] at hq; exact hq
      · rw [if_neg h2] at hq; exact hq
    · refine q_ne (b := 2) (by (first | exact B31_s (by omega) (by omega) | exact B31_of _ | (constructor <;> omega))) (by (first | exact B31_s (by omega) (by omega) | exact B31_of _ | (constructor <;> omega))) (fun h2 => ?_) (fun h2 => ?_)
      · rw [if_neg h2] at hq; exact hq
      · rw [if_pos h2] at hq
        refine And.intro (eI_in (by omega) (by omega) (by omega)) ?_; (try simp (disch := omega) only [eI_cl, Int.toNat_natCast])
        rw [R.s g (by omega)]
        refine M_strengthOf ha (by omega) ?_
        refine ⟨fun h3 => ?_, fun h3 => ?_⟩
        · refine hs (g + 1) _ (by omega) ⟨by omega, by (try simp only [eI_lit, eI_neg, eI_add, eI_sub, eI_mul, eF_ap, upd_eF]); congr 1, fun _ j hj => ?_⟩
          by_cases hjg : j = g
          · subst hjg; exact Int32.not_lt.mpr h3
          · exact hnb h2 j (by omega)
        · have e : lf (fun j => eI (X.s j) < eI (ST σ a)) X.n = g := lf_eq (by omega) (hnb h2) (fun _ => Int32.not_le.mp h3)
          rw [e] at hq; exact hq
  refine q_ne (b := 1) (by (first | exact B31_s (by omega) (by omega) | exact B31_of _ | (constructor <;> omega))) (by (first | exact B31_s (by omega) (by omega) | exact B31_of _ | (constructor <;> omega))) (fun h1 => ?_) (fun h1 => ?_)
  · refine q_ne (b := 3) (by (first | exact B31_s (by omega) (by omega) | exact B31_of _ | (constructor <;> omega))) (by (first | exact B31_s (by omega) (by omega) | exact B31_of _ | (constructor <;> omega))) (fun h3 => loop (by omega)) (fun h3 => ?_)
    refine q_le (a := 4) (by (first | exact B31_s (by omega) (by omega) | exact B31_of _ | (constructor <;> omega))) (by (first | exact B31_s (by omega) (by omega) | exact B31_of _ | (constructor <;> omega))) (fun h4 => loop (by omega)) (fun h4 => ?_)
    refine And.intro (eI_in (by omega) (by omega) (by omega)) ?_; (try simp (disch := omega) only [eI_cl, Int.toNat_natCast])
    rw [if_neg h1, if_pos (by omega)] at hq
    rw [hpc h3 n (by omega)]; exact hq
  · rw [if_pos h1] at hq; exact hq
theorem ins_n {X : RW} {p : Nat} {k s : Int} : (X.ins p k s).n = X.n + 1 := rfl
theorem KOk.ins {σ : Nat → Int} {X : RW} (hk : KOk σ X.k X.n) {p : Nat} {a s : Int} (hp : p ≤ X.n) (ha : 0 ≤ a) (ha2 : a < σ 3) : KOk σ (X.ins p a s).k (X.ins p a s).n := fun j hj => by
  have hj' : j < X.n + 1 := hj
  show 0 ≤ insF X.k p a j ∧ insF X.k p a j < σ 3
  by_cases e : j = p
  · subst e; rw [insF_eq]; exact ⟨ha, ha2⟩
  · by_cases hlt : j < p
    · rw [insF_lt hlt]; exact hk j (by omega)
    · rw [insF_gt (by omega)]; exact hk (j - 1) (by omega)
theorem adN_hb {σ : Nat → Int} (O : LOk σ) {g : Int} (h0 : 0 ≤ g) (ha : 0 ≤ adN σ (hb σ g) (g + 1)) : (hb σ g : Int) < σ 1 ∧ AT σ (hb σ g) = g + 1 ∧ adN σ (hb σ g) (g + 1) = AD σ (hb σ g) ∧ hb σ (g + 1) = hb σ g + 1 := by
  have hc : (hb σ g : Int) < σ 1 ∧ AT σ (hb σ g) = g + 1 := by
    unfold adN at ha
    split at ha
    · rename_i hc; exact hc
    · omega
  have hnx := hb_next O h0
  refine ⟨hc.1, hc.2, by unfold adN; rw [if_pos hc], ?_⟩
  rw [← hnx]; unfold nhN; rw [if_pos hc]
theorem M_livesBy {σ : Nat → Int} (O : LOk σ) {i w st wo f b pr : F32} {rule : Int} (hr : 0 ≤ rule ∧ rule ≤ 3) {pc : Nat → Nat} (hpc : rule = 3 → ∀ q, q < 4 → pr q = eI (pc q)) (hpl : rule = 3 → ∀ q, q < 4 → pc q ≤ (σ 10).toNat + q) {Q : Int32 → F32 → F32 → F32 → F32 → F32 → F32 → Prop} (hq : ∀ i' w' st' wo' f' b', Kp i i' → i' 32 = eI (lvs σ (plcR σ rule pc) ((σ 0).toNat - 1) 0 (FX σ 0) 0) → Q (eI (lvs σ (plcR σ rule pc) ((σ 0).toNat - 1) 0 (FX σ 0) 0)) i' w' st' wo' f' b') : w_LongTrainModel_livesBy i (eF σ) w st wo f b pr (eI rule) Q := by
  have hU := O.u
  have hkc := O.kc
  have hhc := O.hc
  have hfc := O.fc
  unfold w_LongTrainModel_livesBy
  refine M_starts O (fun w1 st1 wo1 R1 => ?_)
  refine lg_LongTrainModel_livesBy_13 (G := Nat) (fun g x2 x3 i' w' st' wo' f' b' => ∃ (u n : Nat) (X : RW), g = (σ 0).toNat - u ∧ (u = 0 ∨ (u : Int) < σ 0) ∧ x2 = eI n ∧ x3 = eI ((u : Int) + 1) ∧ n ≤ hb σ u ∧ X.n = (σ 10).toNat + n ∧ KOk σ X.k X.n ∧ LR X i' w' st' wo' ∧ Kp i i' ∧ i' 32 = eI n ∧ lvs σ (plcR σ rule pc) ((σ 0).toNat - 1 - u) u X n = lvs σ (plcR σ rule pc) ((σ 0).toNat - 1) 0 (FX σ 0) 0) (fun g => g) ?_ ((σ 0).toNat) ⟨0, 0, FX σ 0, by omega, Or.inl rfl, rfl, rfl, Nat.zero_le _, by show (σ 10).toNat = _; omega, KOk.fr O (by omega), ⟨by rw [upd_n (by omega)]; exact R1.n, R1.k, R1.s, R1.w⟩, (Kp.rf.u (by omega)).u (by omega), upd_s, by rw [Nat.sub_zero]⟩
  rintro kr g x2 x3 i' w' st' wo' f' b' ⟨u, n, X, rfl, hu, rfl, rfl, hnb, hXn, hk, R, hKp, h32, he⟩ hstep
  have hbl := hb_le O (u : Int)
  unfold b_LongTrainModel_livesBy_13
  rw [eF_ap]
  refine q_le (by (first | exact B31_s (by omega) (by omega) | exact B31_of _ | (constructor <;> omega))) (by (first | exact B31_s (by omega) (by omega) | exact B31_of _ | (constructor <;> omega))) (fun h => ?_) (fun h => ?_)
  · have e0 : (σ 0).toNat - 1 - u = 0 := by omega
    rw [e0] at he
    have he' : n = lvs σ (plcR σ rule pc) ((σ 0).toNat - 1) 0 (FX σ 0) 0 := he
    rw [← he'] at hq
    exact hq _ _ _ _ _ _ hKp h32
  · have ef : (σ 0).toNat - 1 - u = ((σ 0).toNat - 1 - (u + 1)) + 1 := by omega
    rw [ef, lvs] at he
    refine M_parts O R (by omega) hk (by omega) (by omega) (fun hpt i2 f2 b2 hi2 => ?_) (fun hpt i2 f2 b2 wo2 hi2 R2 => ?_)
    · (first | refine z1T ?_ | refine z1N ?_)
      rw [if_pos hpt] at he
      rw [← he] at hq
      exact hq _ _ _ _ _ _ (fun k hk => by rw [hi2 k (by omega)]; exact hKp k hk) (by rw [hi2 32 (by omega)]; exact h32)
    · (first | refine z0T ?_ | refine z0N ?_)
      rw [if_neg (by omega)] at he
      have k2 : Kp i i2 := fun k hk => by rw [hi2 k (by omega)]; exact hKp k hk
      have h32' : i2 32 = eI n := by rw [hi2 32 (by omega)]; exact h32
      have hmono := hb_mono O (a := (u : Int)) (b := ((u + 1 : Nat) : Int)) (by omega)
      refine M_haltOf O Eqv.rf (g := (u : Int)) (by omega) (by omega) ?_
      by_cases ha : 0 ≤ adN σ (hb σ u) ((u : Int) + 1)
      · obtain ⟨c1, c2, c3, c4⟩ := adN_hb O (by omega) ha
        rw [if_pos ha] at he ⊢
        have hadb := adN_b O (hb σ u) ((u : Int) + 1)
        refine q_le (a := 0) (by (first | exact B31_s (by omega) (by omega) | exact B31_of _ | (constructor <;> omega))) (by (first | exact B31_s (by omega) (by omega) | exact B31_of _ | (constructor <;> omega))) (fun _ => ?_) (fun h => by omega)
        have e27 : i2 27 = eI X.n := R2.n
        rw [e27]
        refine q_le (a := 20) (by (first | exact B31_s (by omega) (by omega) | exact B31_of _ | (constructor <;> omega))) (by (first | exact B31_s (by omega) (by omega) | exact B31_of _ | (constructor <;> omega))) (fun h => by omega) (fun _ => ?_)
        refine M_addsOf (by omega) (by omega) ?_
        rw [h32', ← c3]
        have hpn : plcR σ rule pc n (wrX σ X ((u : Int) + 1)) (adN σ (hb σ u) ((u : Int) + 1)) ≤ X.n := by
          unfold plcR
          split
          · omega
          · split
            · rename_i h1 h3
              have := hpl h3.1 n h3.2
              omega
            · split
              · exact (lf_sp _ _).1
              · exact Nat.le_refl _
        refine M_placeBy O R2 (by show X.n ≤ 20; omega) hr hpc (by omega) ha (by omega) ?_
        refine M_addsOf (by omega) (by omega) ?_
        refine M_addsOf (by omega) (by omega) ?_
        rw [← c3]
        refine M_strengthOf ha (by omega) ?_
        refine M_inserts R2 (by show X.n < 20; omega) hpn (fun w3 st3 wo3 R3 => ?_)
        rw [upd_n (by omega), h32']
        (try simp only [eI_lit, eI_neg, eI_add, eI_sub, eI_mul, eF_ap, upd_eF])
        refine hstep ((σ 0).toNat - (u + 1)) _ _ _ _ _ _ _ _ (by omega) ⟨u + 1, n + 1, _, rfl, Or.inr (by omega), by congr 1, by congr 1, ?_, ?_, KOk.ins (X := wrX σ X ((u : Int) + 1)) hk hpn ha (by omega), ⟨by rw [upd_n (by omega)]; exact R3.n, R3.k, R3.s, R3.w⟩, (k2.u (by omega)).u (by omega), by rw [upd_s]; congr 1, ?_⟩
        · have e5 : ((u + 1 : Nat) : Int) = (u : Int) + 1 := by omega
          rw [e5, c4]; omega
        · show X.n + 1 = _; omega
        · exact he
      · rw [if_neg ha] at he ⊢
        refine q_le (a := 0) (by (first | exact B31_s (by omega) (by omega) | exact B31_of _ | (constructor <;> omega))) (by (first | exact B31_s (by omega) (by omega) | exact B31_of _ | (constructor <;> omega))) (fun h => by omega) (fun _ => ?_)
        (try simp only [eI_lit, eI_neg, eI_add, eI_sub, eI_mul, eF_ap, upd_eF])
        exact hstep ((σ 0).toNat - (u + 1)) _ _ _ _ _ _ _ _ (by omega) ⟨u + 1, n, wrX σ X ((u : Int) + 1), rfl, Or.inr (by omega), rfl, by congr 1, by omega, hXn, hk, R2, k2, h32', he⟩
noncomputable def livS (σ : Nat → Int) (r : Int) : Int := if 0 ≤ r ∧ r ≤ 2 then (lvs σ (plcR σ r (fun _ => 0)) ((σ 0).toNat - 1) 0 (FX σ 0) 0 : Int) else -1
theorem M_lives {σ : Nat → Int} (O : LOk σ) {i w st wo f b pr : F32} {r : Int} (hr : B31 r) {Q : Int32 → F32 → F32 → F32 → F32 → F32 → F32 → Prop} (hq : ∀ i' w' st' wo' f' b', KP i i' → Q (eI (livS σ r)) i' w' st' wo' f' b') : w_LongTrainModel_lives i (eF σ) w st wo f b pr (eI r) Q := by
  unfold w_LongTrainModel_lives
  unfold livS at hq
  refine M_isIn (b := 0) (c := 2) hr (by (first | exact B31_s (by omega) (by omega) | exact B31_of _ | (constructor <;> omega))) (by (first | exact B31_s (by omega) (by omega) | exact B31_of _ | (constructor <;> omega))) (fun a1 a2 => ?_) (fun a => by (first | refine z0T ?_ | refine z0N ?_); rw [if_neg a] at hq; exact hq _ _ _ _ _ _ KP.u0)
  (first | refine z1T ?_ | refine z1N ?_)
  rw [if_pos ⟨a1, a2⟩] at hq
  exact M_livesBy O (by omega) (fun h => by omega) (fun h => by omega) (fun i' w' st' wo' f' b' k _ => hq _ _ _ _ _ _ k.P)
/-! the class -/
theorem C_holdsAt {σ : Nat → Int} (O : LOk σ) {X : RW} {head : Int} {nh : Nat} {i K L W S E P H : F32} (r : RowR σ X head nh i K L W S E P H) {il gl b : F32} (I : LnI σ il) (G : LnG σ gl) (hk : KOk σ X.k X.n) (hn : X.n ≤ 20) (hp0 : ∀ j, j < X.n → X.p j = 0) {h : Int} (h0 : 0 ≤ h) (h1 : h < σ 0) {Q : Int32 → F32 → F32 → F32 → Prop} (hp : ptL σ X h < X.n → ∀ i' b', RowR σ X h nh i' K L W S E P H → Q 0 i' b' E) (hq : ptL σ X h = X.n → ∀ i' b' E', RowR σ (wrX σ X h) h nh i' K L W S E' P H → Q 1 i' b' E') : w_Lives_holdsAt i il L gl W P b S E (eI h) Q := by
  unfold w_Lives_holdsAt
  have r1 := r.head h
  refine R_measure O r1 I G hk hn h0 (Or.inl h1) (fun b' hb => ?_)
  have hb' : ∀ j, j < X.n → b' j = eI (br σ X.k X.n h j) := fun j hj => by rw [hb j hj, brp_0 hp0 (by omega)]
  rw [I.wear]
  refine R_partingPlace r1 hn hb' (fun hnone => ?_) (fun hpart => ?_)
  · refine ⟨fun _ => ?_, fun h => absurd rfl h⟩
    have e8 : upd i 10 (eI h) 8 = eI X.n := r1.sz
    rw [e8]
    refine R_addWear r1 hn hb' (Nat.le_refl _) (fun E' rE => ?_)
    exact hq hnone _ _ _ rE
  · have hlt : ptL σ X h < X.n := hpart
    have e : lf (Bad σ X.s X.w (br σ X.k X.n h)) X.n = ptL σ X h := rfl
    rw [e]
    (try simp only [eI_lit, eI_neg, eI_add, eI_sub, eI_mul, eF_ap, upd_eF])
    exact q_eq (by (first | exact B31_s (by omega) (by omega) | exact B31_of _ | (constructor <;> omega))) (by (first | exact B31_s (by omega) (by omega) | exact B31_of _ | (constructor <;> omega))) (fun h => by omega) (fun _ => hp hlt _ _ r1)
theorem C_placeBy {σ : Nat → Int} {X : RW} {head : Int} {nh : Nat} {i K L W S E P H : F32} (r : RowR σ X head nh i K L W S E P H) (hn : X.n ≤ 20) {rule a : Int} (hr : 0 ≤ rule ∧ rule ≤ 2) (n : Nat) {Q : Int32 → Prop} (hq : Q (eI (plcR σ rule (fun _ => 0) n X a))) : w_Lives_placeBy i S (eI rule) (eI (ST σ a)) Q := by
  unfold w_Lives_placeBy
  unfold plcR at hq
  refine q_ne (b := 1) (by (first | exact B31_s (by omega) (by omega) | exact B31_of _ | (constructor <;> omega))) (by (first | exact B31_s (by omega) (by omega) | exact B31_of _ | (constructor <;> omega))) (fun n1 => ?_) (fun e1 => ?_)
  · rw [if_neg n1, if_neg (by omega)] at hq
    refine q_ne (b := 2) (by (first | exact B31_s (by omega) (by omega) | exact B31_of _ | (constructor <;> omega))) (by (first | exact B31_s (by omega) (by omega) | exact B31_of _ | (constructor <;> omega))) (fun n2 => ?_) (fun e2 => ?_)
    · rw [if_neg n2] at hq
      unfold j_Lives_placeBy_20
      rw [r.sz]
      refine lg_Lives_placeBy_21 (G := Nat) (fun g x => x = eI X.n) (fun g => g) ?_ 0 rfl
      rintro kr g x rfl hs
      unfold b_Lives_placeBy_21
      rw [r.sz]
      exact q_le (by (first | exact B31_s (by omega) (by omega) | exact B31_of _ | (constructor <;> omega))) (by (first | exact B31_s (by omega) (by omega) | exact B31_of _ | (constructor <;> omega))) (fun _ => hq) (fun h => by omega)
    · rw [if_pos e2] at hq
      unfold j_Lives_placeBy_20
      refine lg_Lives_placeBy_21 (G := Nat) (fun g x => g ≤ X.n ∧ x = eI g ∧ ∀ j, j < g → ¬ eI (X.s j) < eI (ST σ a)) (fun g => X.n - g) ?_ 0 ⟨by omega, rfl, fun j hj => absurd hj (Nat.not_lt_zero _)⟩
      rintro kr g x ⟨hg, rfl, hnb⟩ hs
      unfold b_Lives_placeBy_21
      rw [r.sz]
      refine q_le (by (first | exact B31_s (by omega) (by omega) | exact B31_of _ | (constructor <;> omega))) (by (first | exact B31_s (by omega) (by omega) | exact B31_of _ | (constructor <;> omega))) (fun h => ?_) (fun h => ?_)
      · have eg : g = X.n := by omega
        subst eg
        have e : lf (fun j => eI (X.s j) < eI (ST σ a)) X.n = X.n := lf_eq (Nat.le_refl _) hnb (fun h => absurd h (Nat.lt_irrefl _))
        rw [e] at hq; exact hq
      · refine And.intro (eI_in (by omega) (by omega) (by omega)) ?_; (try simp (disch := omega) only [eI_cl, Int.toNat_natCast])
        rw [r.s g (by omega)]
        refine ⟨fun h3 => ?_, fun h3 => ?_⟩
        · have e : lf (fun j => eI (X.s j) < eI (ST σ a)) X.n = g := lf_eq (by omega) hnb (fun _ => h3)
          rw [e] at hq; exact hq
        · refine hs (g + 1) _ (by omega) ⟨by omega, by (try simp only [eI_lit, eI_neg, eI_add, eI_sub, eI_mul, eF_ap, upd_eF]); congr 1, fun j hj => ?_⟩
          by_cases hjg : j = g
          · subst hjg; exact h3
          · exact hnb j (by omega)
  · rw [if_pos e1] at hq; exact hq
theorem R_begin0 {σ} (O : LOk σ) {i K L W S E P H : F32} {il hl fl d : F32} (I : LnI σ il) (HH : LnH σ hl) (FF : LnF σ fl) (D : LnK σ d) {Q : QR} (hq : ∀ i' K' L' W' S' E' P' H', RowR σ (FX σ 0) 0 (hb σ 0) i' K' L' W' S' E' P' H' → Q i' K' L' W' S' E' P' H') : w_Row_begin i il hl fl K L W S E P H d Q := by
  refine R_begin O I HH FF D (fun i' K' L' W' S' E' P' H' r => ?_)
  have z := fr_zero O (h := 0) (by omega) (hz σ 0) (by unfold hz; exact Nat.le_refl _)
  have e : FX σ (hz σ 0) = FX σ 0 := by unfold FX; rw [z.1, z.2]
  rw [e] at r
  exact hq _ _ _ _ _ _ _ _ r
theorem ins_p {X : RW} {p : Nat} {k s : Int} (hp : p ≤ X.n) (h : ∀ j, j < X.n → X.p j = 0) : ∀ j, j < (X.ins p k s).n → (X.ins p k s).p j = 0 := fun j hj => by
  have hj' : j < X.n + 1 := hj
  show insF X.p p 0 j = 0
  by_cases e : j = p
  · subst e; rw [insF_eq]
  · by_cases hlt : j < p
    · rw [insF_lt hlt]; exact h j (by omega)
    · rw [insF_gt (by omega)]; exact h (j - 1) (by omega)
theorem C_lives {σ : Nat → Int} (O : LOk σ) {i K L W S E P H b : F32} {il gl hl fl d : F32} (I : LnI σ il) (G : LnG σ gl) (HH : LnH σ hl) (FF : LnF σ fl) (D : LnK σ d) {rl : Int} (hr : B31 rl) {Q : Int32 → QR9} (hq : ∀ i' K' L' W' S' E' P' H' b', Q (eI (livS σ rl)) i' K' L' W' S' E' P' H' b') : w_LongTrain_lives il i hl fl K L W S E P H d gl b (eI rl) Q := by
  have hU := O.u
  have hkc := O.kc
  have hhc := O.hc
  have hfc := O.fc
  unfold w_LongTrain_lives
  unfold livS at hq
  refine q_lt (b := 0) hr (by (first | exact B31_s (by omega) (by omega) | exact B31_of _ | (constructor <;> omega))) (fun h => by rw [if_neg (by omega)] at hq; exact hq _ _ _ _ _ _ _ _ _) (fun a1 => ?_)
  refine q_le (b := 2) hr (by (first | exact B31_s (by omega) (by omega) | exact B31_of _ | (constructor <;> omega))) (fun a2 => ?_) (fun h => by rw [if_neg (by omega)] at hq; exact hq _ _ _ _ _ _ _ _ _)
  rw [if_pos ⟨a1, a2⟩] at hq
  unfold w_Lives_haltsBy
  refine R_begin0 O I HH FF D (fun i1 K1 L1 W1 S1 E1 P1 H1 r1 => ?_)
  refine lg_Lives_haltsBy_18 (G := Nat) (fun g x4 x5 i' K' L' W' S' E' P' H' b' => ∃ (u n : Nat) (X : RW), g = (σ 0).toNat - u ∧ (u = 0 ∨ (u : Int) < σ 0) ∧ x4 = eI n ∧ x5 = eI ((u : Int) + 1) ∧ n ≤ hb σ u ∧ X.n = (σ 10).toNat + n ∧ KOk σ X.k X.n ∧ (∀ j, j < X.n → X.p j = 0) ∧ RowR σ X u (hb σ u) i' K' L' W' S' E' P' H' ∧ lvs σ (plcR σ rl (fun _ => 0)) ((σ 0).toNat - 1 - u) u X n = lvs σ (plcR σ rl (fun _ => 0)) ((σ 0).toNat - 1) 0 (FX σ 0) 0) (fun g => g) ?_ ((σ 0).toNat) ⟨0, 0, FX σ 0, by omega, Or.inl rfl, rfl, rfl, Nat.zero_le _, by show (σ 10).toNat = _; omega, KOk.fr O (by omega), fun _ _ => rfl, r1, by rw [Nat.sub_zero]⟩
  rintro kr g x4 x5 i' K' L' W' S' E' P' H' b' ⟨u, n, X, rfl, hu, rfl, rfl, hnb, hXn, hk, hp0, r, he⟩ hstep
  have hbl := hb_le O (u : Int)
  unfold b_Lives_haltsBy_18
  rw [I.u]
  refine q_le (by (first | exact B31_s (by omega) (by omega) | exact B31_of _ | (constructor <;> omega))) (by (first | exact B31_s (by omega) (by omega) | exact B31_of _ | (constructor <;> omega))) (fun h => ?_) (fun h => ?_)
  · have e0 : (σ 0).toNat - 1 - u = 0 := by omega
    rw [e0] at he
    have he' : n = lvs σ (plcR σ rl (fun _ => 0)) ((σ 0).toNat - 1) 0 (FX σ 0) 0 := he
    rw [← he'] at hq
    exact hq _ _ _ _ _ _ _ _ _
  · have ef : (σ 0).toNat - 1 - u = ((σ 0).toNat - 1 - (u + 1)) + 1 := by omega
    rw [ef, lvs] at he
    refine C_holdsAt O r I G hk (by omega) hp0 (by omega) (by omega) (fun hpt i2 b2 r2 => ?_) (fun hpt i2 b2 E2 r2 => ?_)
    · (first | refine z0T ?_ | refine z0N ?_)
      rw [if_pos hpt] at he
      rw [← he] at hq
      exact hq _ _ _ _ _ _ _ _ _
    · (first | refine z1T ?_ | refine z1N ?_)
      rw [if_neg (by omega)] at he
      have hmono := hb_mono O (a := (u : Int)) (b := ((u + 1 : Nat) : Int)) (by omega)
      have e5 : ((u + 1 : Nat) : Int) = (u : Int) + 1 := by omega
      have e6 : ((n + 1 : Nat) : Int) = (n : Int) + 1 := by omega
      have e7 : ((u + 1 : Nat) : Int) + 1 = (u : Int) + 1 + 1 := by omega
      have hadb := adN_b O (hb σ u) ((u : Int) + 1)
      refine R_arrive O r2 I HH (by (first | exact B31_s (by omega) (by omega) | exact B31_of _ | (constructor <;> omega))) hbl (fun i3 r3 => ?_)
      rw [hb_next O (by omega)] at r3
      have r3' : RowR σ (wrX σ X ((u : Int) + 1)) ((u + 1 : Nat) : Int) (hb σ ((u + 1 : Nat) : Int)) i3 K' L' W' S' E2 P' H' := by rw [e5]; exact r3
      by_cases ha : 0 ≤ adN σ (hb σ u) ((u : Int) + 1)
      · obtain ⟨c1, c2, c3, c4⟩ := adN_hb O (by omega) ha
        rw [if_pos ha] at he
        (try simp only [eI_lit, eI_neg, eI_add, eI_sub, eI_mul, eF_ap, upd_eF])
        refine q_eq (by (first | exact B31_s (by omega) (by omega) | exact B31_of _ | (constructor <;> omega))) (by (first | exact B31_s (by omega) (by omega) | exact B31_of _ | (constructor <;> omega))) (fun h => by omega) (fun _ => ?_)
        refine L_strengthOf D ha (by omega) (by omega) ?_
        have hpn : plcR σ rl (fun _ => 0) n (wrX σ X ((u : Int) + 1)) (adN σ (hb σ u) ((u : Int) + 1)) ≤ X.n := by
          unfold plcR
          split
          · omega
          · split
            · omega
            · split
              · exact (lf_sp _ _).1
              · exact Nat.le_refl _
        refine C_placeBy r3' (by show X.n ≤ 20; omega) ⟨a1, a2⟩ n ?_
        refine R_insert r3' D (by omega) (by show X.n < 20; omega) hpn ha (by omega) (fun i4 K4 L4 W4 S4 E4 P4 H4 r4 => ?_)
        (try simp only [eI_lit, eI_neg, eI_add, eI_sub, eI_mul, eF_ap, upd_eF])
        refine hstep ((σ 0).toNat - (u + 1)) _ _ _ _ _ _ _ _ _ _ _ (by omega) ⟨u + 1, n + 1, (wrX σ X ((u : Int) + 1)).ins (plcR σ rl (fun _ => 0) n (wrX σ X ((u : Int) + 1)) (adN σ (hb σ u) ((u : Int) + 1))) (adN σ (hb σ u) ((u : Int) + 1)) (ST σ (adN σ (hb σ u) ((u : Int) + 1))), rfl, Or.inr (by omega), by rw [e6], by rw [e7], ?_, ?_, KOk.ins (X := wrX σ X ((u : Int) + 1)) hk hpn ha (by omega), ins_p (X := wrX σ X ((u : Int) + 1)) hpn hp0, r4, he⟩
        · rw [e5, c4]; omega
        · show X.n + 1 = _; omega
      · rw [if_neg ha] at he
        (try simp only [eI_lit, eI_neg, eI_add, eI_sub, eI_mul, eF_ap, upd_eF])
        refine q_eq (by (first | exact B31_s (by omega) (by omega) | exact B31_of _ | (constructor <;> omega))) (by (first | exact B31_s (by omega) (by omega) | exact B31_of _ | (constructor <;> omega))) (fun _ => ?_) (fun h => by omega)
        refine hstep ((σ 0).toNat - (u + 1)) _ _ _ _ _ _ _ _ _ _ _ (by omega) ⟨u + 1, n, wrX σ X ((u : Int) + 1), rfl, Or.inr (by omega), rfl, ?_, ?_, ?_, ?_, ?_, r3', he⟩
        · rw [e7]
        · omega
        · exact hXn
        · exact hk
        · exact hp0
