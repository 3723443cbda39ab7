/-! the reference: small methods, stands, free -/
theorem M_longOf {σ : Nat → Int} {k : Int} {Q : Int32 → Prop} (h0 : 0 ≤ k) (h1 : k ≤ 5) (h : Q (eI (LG σ k))) : w_LongTrainModel_longOf (eF σ) (eI k) Q := by
  unfold w_LongTrainModel_longOf
  (try simp only [eI_lit, eI_neg, eI_add, eI_sub, eI_mul, eF_ap, upd_eF]); refine And.intro (eI_in (by omega) (by omega) (by omega)) ?_; (try simp (disch := omega) only [eI_cl, Int.toNat_natCast]); exact h
theorem M_weightOf {σ : Nat → Int} {k : Int} {Q : Int32 → Prop} (h0 : 0 ≤ k) (h1 : k ≤ 5) (h : Q (eI (WT σ k))) : w_LongTrainModel_weightOf (eF σ) (eI k) Q := by
  unfold w_LongTrainModel_weightOf
  (try simp only [eI_lit, eI_neg, eI_add, eI_sub, eI_mul, eF_ap, upd_eF]); refine And.intro (eI_in (by omega) (by omega) (by omega)) ?_; (try simp (disch := omega) only [eI_cl, Int.toNat_natCast]); exact h
theorem M_strengthOf {σ : Nat → Int} {k : Int} {Q : Int32 → Prop} (h0 : 0 ≤ k) (h1 : k ≤ 5) (h : Q (eI (ST σ k))) : w_LongTrainModel_strengthOf (eF σ) (eI k) Q := by
  unfold w_LongTrainModel_strengthOf
  (try simp only [eI_lit, eI_neg, eI_add, eI_sub, eI_mul, eF_ap, upd_eF]); refine And.intro (eI_in (by omega) (by omega) (by omega)) ?_; (try simp (disch := omega) only [eI_cl, Int.toNat_natCast]); exact h
theorem M_haltAt {σ : Nat → Int} {k : Int} {Q : Int32 → Prop} (h0 : 0 ≤ k) (h1 : k ≤ 9) (h : Q (eI (AT σ k))) : w_LongTrainModel_haltAt (eF σ) (eI k) Q := by
  unfold w_LongTrainModel_haltAt
  (try simp only [eI_lit, eI_neg, eI_add, eI_sub, eI_mul, eF_ap, upd_eF]); refine And.intro (eI_in (by omega) (by omega) (by omega)) ?_; (try simp (disch := omega) only [eI_cl, Int.toNat_natCast]); exact h
theorem M_addsOf {σ : Nat → Int} {k : Int} {Q : Int32 → Prop} (h0 : 0 ≤ k) (h1 : k ≤ 9) (h : Q (eI (AD σ k))) : w_LongTrainModel_addsOf (eF σ) (eI k) Q := by
  unfold w_LongTrainModel_addsOf
  (try simp only [eI_lit, eI_neg, eI_add, eI_sub, eI_mul, eF_ap, upd_eF]); refine And.intro (eI_in (by omega) (by omega) (by omega)) ?_; (try simp (disch := omega) only [eI_cl, Int.toNat_natCast]); exact h
theorem M_GR {σ : Nat → Int} {u : Int} {Q : Int32 → Prop} (hu : -100000 ≤ u) (hu2 : u < 400) (h : Q (eI (GR σ u))) : w_LongTrainModel_gradeOf (eF σ) (eI u) Q := by
  refine M_gradeOf hu hu2 ?_
  have e : (if u < 0 then 0 else σ (11 + u.toNat)) = GR σ u := by
    unfold GR
    split
    · rfl
    · have : (11 + u).toNat = 11 + u.toNat := by omega
      rw [this]
  rw [e]; exact h
theorem fo_0 (σ k head) : fo σ k head 0 = head - 1 := by simp [fo, sm]
theorem fo_s (σ k head i) : fo σ k head (i + 1) = fo σ k head i - LG σ (k i) := by simp only [fo, sm]; omega
theorem br_n (σ k n head) : br σ k n head n = 0 := by simp [br]
theorem br_s (σ k n head i) : br σ k n head i = br σ k n head (i + 1) + dg σ k head i := by simp only [br, sm]; omega
theorem M_stands {σ : Nat → Int} (L : LOk σ) {i f w b : Nat → Int32} {n : Nat} {k : Nat → Int} {head : Int} {Q : (Nat → Int32) → (Nat → Int32) → (Nat → Int32) → Prop} (hn : n ≤ 20) (hi : i 27 = eI n) (hw : ∀ j, j < n → w j = eI (k j)) (hk : KOk σ k n) (h0 : 0 ≤ head) (h1 : head < 400) (hq : ∀ f' b', (∀ j, j < n → f' j = eI (fo σ k head j)) → (∀ j, j < n → b' j = eI (br σ k n head j)) → Q (upd i 28 (eI (ld σ k n head))) f' b') : w_LongTrainModel_stands i f w (eF σ) b (eI head) Q := by
  have hu := L.u
  have hkc := L.kc
  unfold w_LongTrainModel_stands
  refine lg_LongTrainModel_stands_6 (G := Nat) (fun g x2 x3 f => g ≤ n ∧ x2 = eI (fo σ k head g) ∧ x3 = eI g ∧ ∀ j, j < g → f j = eI (fo σ k head j)) (fun g => n - g) ?_ 0 ⟨by omega, by rw [fo_0]; (try simp only [eI_lit, eI_neg, eI_add, eI_sub, eI_mul, eF_ap, upd_eF]), rfl, by intro j hj; omega⟩
  rintro kr g x2 x3 f ⟨hg, rfl, rfl, hf⟩ hs
  unfold b_LongTrainModel_stands_6
  rw [hi]
  refine q_le (by (first | exact B31_s (by omega) (by omega) | exact B31_of _ | (constructor <;> omega))) (by (first | exact B31_s (by omega) (by omega) | exact B31_of _ | (constructor <;> omega))) (fun h => ?_) (fun h => ?_)
  · have hgn : g = n := by omega
    subst hgn
    refine lg_LongTrainModel_stands_50 (G := Nat) (fun r x3 x4 b => r ≤ g ∧ x3 = eI (br σ k g head r) ∧ x4 = eI ((r : Int) - 1) ∧ ∀ j, r ≤ j → j < g → b j = eI (br σ k g head j)) (fun r => r) ?_ g ⟨by omega, by rw [br_n]; rfl, by (try simp only [eI_lit, eI_neg, eI_add, eI_sub, eI_mul, eF_ap, upd_eF]), by intro j hj; omega⟩
    rintro kr r x3 x4 b ⟨hr, rfl, rfl, hb⟩ hs2
    unfold b_LongTrainModel_stands_50
    (try simp only [eI_lit, eI_neg, eI_add, eI_sub, eI_mul, eF_ap, upd_eF])
    refine q_lt (by (first | exact B31_s (by omega) (by omega) | exact B31_of _ | (constructor <;> omega))) (by (first | exact B31_s (by omega) (by omega) | exact B31_of _ | (constructor <;> omega))) (fun h => ?_) (fun h => ?_)
    · have hr0 : r = 0 := by omega
      subst hr0
      have e : br σ k g head 0 = sm (dg σ k head) g := by simp [br, sm]
      refine q_ne (by (first | exact B31_s (by omega) (by omega) | exact B31_of _ | (constructor <;> omega))) (by (first | exact B31_s (by omega) (by omega) | exact B31_of _ | (constructor <;> omega))) (fun h2 => ?_) (fun h2 => ?_)
      · refine M_GR (by omega) (by omega) ?_
        have := hq f b hf (fun j hj => hb j (by omega) hj)
        unfold ld at this
        rw [if_neg h2] at this
        rw [e]; (try simp only [eI_lit, eI_neg, eI_add, eI_sub, eI_mul, eF_ap, upd_eF]); exact this
      · have := hq f b hf (fun j hj => hb j (by omega) hj)
        unfold ld at this
        rw [if_pos h2] at this
        rw [e]; exact this
    · have e1 : ((r : Int) - 1).toNat = r - 1 := by omega
      have hk1 := hk (r - 1) (by omega)
      have hl := sm_lg L hk (i := r - 1) (by omega)
      refine And.intro (eI_in (by omega) (by omega) (by omega)) ?_; (try simp (disch := omega) only [eI_cl, Int.toNat_natCast])
      rw [e1, hw (r - 1) (by omega)]
      refine M_weightOf hk1.1 (by omega) ?_
      refine And.intro (eI_in (by omega) (by omega) (by omega)) ?_
      rw [hf (r - 1) (by omega)]
      refine M_GR (by unfold fo; omega) (by unfold fo; omega) ?_
      refine And.intro (eI_in (by omega) (by omega) (by omega)) ?_
      have e2 := br_s σ k g head (r - 1)
      have e3 : r - 1 + 1 = r := by omega
      rw [e3] at e2
      have e4 : dg σ k head (r - 1) = WT σ (k (r - 1)) * (GR σ (fo σ k head (r - 1)) + σ 6) := rfl
      rw [e4] at e2
      (try simp only [eI_lit, eI_neg, eI_add, eI_sub, eI_mul, eF_ap, upd_eF])
      rw [← e2]
      refine hs2 (r - 1) _ _ _ (by omega) ⟨by omega, rfl, by congr 1; omega, fun j hj hjg => ?_⟩
      by_cases hjr : j = r - 1
      · subst hjr; exact upd_s
      · rw [upd_n hjr]; exact hb j (by omega) hjg
  · have hk1 := hk g (by omega)
    refine And.intro (eI_in (by omega) (by omega) (by omega)) ?_; refine And.intro (eI_in (by omega) (by omega) (by omega)) ?_; (try simp (disch := omega) only [eI_cl, Int.toNat_natCast])
    rw [hw g (by omega)]
    refine M_longOf hk1.1 (by omega) ?_
    (try simp only [eI_lit, eI_neg, eI_add, eI_sub, eI_mul, eF_ap, upd_eF])
    refine hs (g + 1) _ _ _ (by omega) ⟨by omega, by rw [fo_s], by congr 1, fun j hj => ?_⟩
    by_cases hjg : j = g
    · subst hjg; exact upd_s
    · rw [upd_n hjg]; exact hf j (by omega)
theorem M_free {σ : Nat → Int} (L : LOk σ) {i w : Nat → Int32} {t : Int} {Q : (Nat → Int32) → (Nat → Int32) → Prop} (h0 : -10 ≤ t) (h1 : t ≤ 400) (hq : ∀ w', (∀ j, j < frn σ (hb σ t) → w' j = eI (frk σ (hb σ t) j)) → Q (upd i 27 (eI (frn σ (hb σ t)))) w') : w_LongTrainModel_free i (eF σ) w (eI t) Q := by
  have hfc := L.fc
  have hhc := L.hc
  unfold w_LongTrainModel_free
  (try simp only [eI_lit, eI_neg, eI_add, eI_sub, eI_mul, eF_ap, upd_eF])
  refine lg_LongTrainModel_free_13 (G := Nat) (fun g x2 w => g ≤ (σ 10).toNat ∧ x2 = eI g ∧ ∀ j, j < g → w j = eI (σ (475 + j))) (fun g => (σ 10).toNat - g) ?_ 0 ⟨by omega, rfl, by intro j hj; omega⟩
  rintro kr g x2 w ⟨hg, rfl, hw⟩ hs
  unfold b_LongTrainModel_free_13
  rw [upd_s]
  (try simp only [eI_lit, eI_neg, eI_add, eI_sub, eI_mul, eF_ap, upd_eF])
  refine q_le (by (first | exact B31_s (by omega) (by omega) | exact B31_of _ | (constructor <;> omega))) (by (first | exact B31_s (by omega) (by omega) | exact B31_of _ | (constructor <;> omega))) (fun h => ?_) (fun h => ?_)
  · have hgn : g = (σ 10).toNat := by omega
    subst hgn
    have hbl := hb_le L t
    refine lg_LongTrainModel_free_45 (G := Nat) (fun g x2 i' w => (g : Int) ≤ σ 1 ∧ x2 = eI g ∧ i' = upd i 27 (eI (frn σ (min g (hb σ t)))) ∧ ∀ j, j < frn σ (min g (hb σ t)) → w j = eI (frk σ (min g (hb σ t)) j)) (fun g => (σ 1).toNat - g) ?_ 0 ⟨by omega, rfl, ?_, ?_⟩
    · rintro kr g x2 i' w ⟨hg, rfl, rfl, hw⟩ hs
      have hfl := frn_le L (min g (hb σ t))
      unfold b_LongTrainModel_free_45
      rw [upd_s]
      (try simp only [eI_lit, eI_neg, eI_add, eI_sub, eI_mul, eF_ap, upd_eF])
      refine q_le (by (first | exact B31_s (by omega) (by omega) | exact B31_of _ | (constructor <;> omega))) (by (first | exact B31_s (by omega) (by omega) | exact B31_of _ | (constructor <;> omega))) (fun h => ?_) (fun h => ?_)
      · have e : min g (hb σ t) = hb σ t := by omega
        rw [e] at hw ⊢
        exact hq w hw
      · have hat := L.at_ g (by omega)
        have hu := L.u
        have had := L.ad g (by omega)
        have hkc := L.kc
        have hsp := hb_sp L t (k := g) (by omega)
        refine M_haltAt (by omega) (by omega) ?_
        have skip : ¬ (1 ≤ AT σ g ∧ AT σ g ≤ t ∧ 0 ≤ AD σ g) → kr (eI (g + 1)) (upd i 27 (eI (frn σ (min g (hb σ t))))) w := by
          intro hno
          refine hs (g + 1) _ _ _ (by omega) ⟨by omega, by congr 1, ?_⟩
          by_cases hlt : g < hb σ t
          · have e1 : min (g + 1) (hb σ t) = g + 1 := by omega
            have e2 : min g (hb σ t) = g := by omega
            have hc : ¬ (1 ≤ AT σ g ∧ 0 ≤ AD σ g) := by have := hsp.mp hlt; omega
            rw [e1, frn, frk, if_neg hc, if_neg hc]
            rw [e2] at hw ⊢
            exact ⟨rfl, hw⟩
          · have e1 : min (g + 1) (hb σ t) = min g (hb σ t) := by omega
            rw [e1]
            exact ⟨rfl, hw⟩
        refine M_isIn (by (first | exact B31_s (by omega) (by omega) | exact B31_of _ | (constructor <;> omega))) (by (first | exact B31_s (by omega) (by omega) | exact B31_of _ | (constructor <;> omega))) (by (first | exact B31_s (by omega) (by omega) | exact B31_of _ | (constructor <;> omega))) (fun ha hb' => ?_) (fun hno => ?_)
        · (first | refine z1T ?_ | refine z1N ?_)
          refine M_addsOf (by omega) (by omega) ?_
          refine q_lt (by (first | exact B31_s (by omega) (by omega) | exact B31_of _ | (constructor <;> omega))) (by (first | exact B31_s (by omega) (by omega) | exact B31_of _ | (constructor <;> omega))) (fun hneg => ?_) (fun hpos => ?_)
          · exact skip (by omega)
          · refine q_ne (by (first | exact B31_s (by omega) (by omega) | exact B31_of _ | (constructor <;> omega))) (by (first | exact B31_s (by omega) (by omega) | exact B31_of _ | (constructor <;> omega))) (fun _ => ?_) (fun h20 => by omega)
            refine M_addsOf (by omega) (by omega) ?_
            refine And.intro (eI_in (by omega) (by omega) (by omega)) ?_; (try simp (disch := omega) only [eI_cl, Int.toNat_natCast])
            (try simp only [eI_lit, eI_neg, eI_add, eI_sub, eI_mul, eF_ap, upd_eF])
            refine hs (g + 1) _ _ _ (by omega) ⟨by omega, by congr 1, ?_⟩
            have hlt := hsp.mpr hb'
            have e1 : min (g + 1) (hb σ t) = g + 1 := by omega
            have e2 : min g (hb σ t) = g := by omega
            have hc : (1 ≤ AT σ g ∧ 0 ≤ AD σ g) := by omega
            rw [e1, frn, frk, if_pos hc, if_pos hc]
            rw [e2] at hw ⊢
            refine ⟨by rw [upd_upd]; congr 1, fun j hj => ?_⟩
            by_cases hj2 : j = frn σ g
            · subst hj2; rw [upd_s, updI_s]
            · rw [upd_n hj2, updI_n _ hj2]; exact hw j (by omega)
        · (first | refine z0T ?_ | refine z0N ?_); exact skip (by omega)
    · have e : min 0 (hb σ t) = 0 := by omega
      rw [e, frn]; congr 2; omega
    · have e : min 0 (hb σ t) = 0 := by omega
      rw [e]; intro j hj; exact hw j (by rw [frn] at hj; exact hj)
  · refine And.intro (eI_in (by omega) (by omega) (by omega)) ?_; refine And.intro (eI_in (by omega) (by omega) (by omega)) ?_; (try simp (disch := omega) only [eI_cl, Int.toNat_natCast])
    refine hs (g + 1) _ _ (by omega) ⟨by omega, by congr 1, fun j hj => ?_⟩
    by_cases hjg : j = g
    · subst hjg; rw [upd_s]; congr 2
    · rw [upd_n hjg]; exact hw j (by omega)
