/-! bets: what is drawn, the leasts, both sides -/
theorem ushr8 (x : Int32) : 0 ≤ (ushr x 8).toInt ∧ (ushr x 8).toInt < 16777216 := by
  have h : (ushr x 8).toBitVec = x.toBitVec >>> 8 := by unfold ushr; simp
  have h2 : (ushr x 8).toInt = (ushr x 8).toBitVec.toInt := rfl
  rw [h2, h]
  have hl := x.toBitVec.isLt
  have hn : (x.toBitVec >>> 8).toNat = x.toBitVec.toNat / 256 := by rw [BitVec.toNat_ushiftRight, Nat.shiftRight_eq_div_pow]
  rw [BitVec.toInt_eq_toNat_of_lt (by rw [hn]; omega), hn]
  omega
theorem drw_bd {s : Int32} {st : Int} (h1 : 1 ≤ st) (h2 : st ≤ 999) : 0 ≤ (drw s (eI st)).toInt ∧ (drw s (eI st)).toInt ≤ 999 := by
  have hu := ushr8 (dsd s)
  unfold drw
  rw [st4 h1 h2, ← eI_of (ushr (dsd s) 8)]
  generalize (ushr (dsd s) 8).toInt = a at *
  rw [eI_div (by omega) (by omega) (by omega) (by omega)]
  (try simp only [eI_lit, eI_neg, eI_add, eI_sub, eI_mul, eF_ap, upd_eF])
  have e : a / (st / 4 + 1) * (st / 4 + 1) = a - a % (st / 4 + 1) := by
    have := Int.emod_add_mul_ediv a (st / 4 + 1)
    rw [Int.mul_comm]
    omega
  have hm := Int.emod_nonneg a (b := st / 4 + 1) (by omega)
  have hm2 := Int.emod_lt_of_pos a (b := st / 4 + 1) (by omega)
  rw [e, eI_toInt (by constructor <;> omega)]
  omega
theorem Dd_bd {σ : Nat → Int} (O : LOk σ) {s : Int32} {u : Nat} (hu : u < 400) {j : Nat} (hj : j < (rdX σ u).n) : 0 ≤ Dd σ s u j ∧ Dd σ s u j ≤ 999 := by
  have hs := st_b O (rd_ok O u hu).k hj
  exact drw_bd hs.1 hs.2
noncomputable def lsS (σ : Nat → Int) : Nat → Nat → Int
  | 0, _ => 0
  | h + 1, j => if j < (rdX σ h).n then max (lsS σ h j) (max (br σ (rdX σ h).k (rdX σ h).n ((h : Int) + 1) j) (((rdX σ h).w j + σ 8 - 1) / σ 8)) else lsS σ h j
theorem lsS_bd {σ : Nat → Int} (O : LOk σ) : ∀ (m : Nat), m < 400 → ∀ j, 0 ≤ lsS σ m j ∧ lsS σ m j ≤ 40000000
  | 0, _, j => ⟨by show (0 : Int) ≤ 0; omega, by show (0 : Int) ≤ 40000000; omega⟩
  | m + 1, hm, j => by
    have ih := lsS_bd O m (by omega) j
    have R := rd_ok O m (by omega)
    have hw := O.wear
    unfold lsS
    split
    · rename_i hj
      have h1 := br_bd O R.k (R.n18 O) (h := (m : Int) + 1) (by omega) (j := j) (by omega)
      have h2 := R.w j hj
      have h3 := Int.ediv_le_self (a := (rdX σ m).w j + σ 8 - 1) (σ 8) (by omega)
      omega
    · exact ih
theorem ceil_lt {w c d : Int} (hc : 0 < c) : d < (w + c - 1) / c ↔ c * d < w := by
  have h1 : d + 1 ≤ (w + c - 1) / c ↔ (d + 1) * c ≤ w + c - 1 := Int.le_ediv_iff_mul_le hc
  have h2 : (d + 1) * c = c * d + c := by rw [Int.add_mul, Int.mul_comm]; omega
  rw [h2] at h1
  constructor
  · intro h
    have := h1.mp (by omega); omega
  · intro h
    have := h1.mpr (by omega); omega
theorem lsS_lt {σ : Nat → Int} (O : LOk σ) {d : Int} (hd : 0 ≤ d) {j : Nat} : ∀ m : Nat, d < lsS σ m j ↔ ∃ h, h < m ∧ j < (rdX σ h).n ∧ (d < br σ (rdX σ h).k (rdX σ h).n ((h : Int) + 1) j ∨ σ 8 * d < (rdX σ h).w j)
  | 0 => ⟨fun h => by have h' : d < 0 := h; omega, fun ⟨h, hh, _⟩ => absurd hh (Nat.not_lt_zero _)⟩
  | m + 1 => by
    have ih := lsS_lt O hd (j := j) m
    have hw := O.wear
    have hc := ceil_lt (w := (rdX σ m).w j) (c := σ 8) (d := d) (by omega)
    unfold lsS
    by_cases hj : j < (rdX σ m).n
    · rw [if_pos hj]
      constructor
      · intro h
        by_cases h1 : d < lsS σ m j
        · obtain ⟨q, hq, hr⟩ := ih.mp h1
          exact ⟨q, by omega, hr⟩
        · refine ⟨m, by omega, hj, ?_⟩
          by_cases h2 : d < br σ (rdX σ m).k (rdX σ m).n ((m : Int) + 1) j
          · exact Or.inl h2
          · exact Or.inr (hc.mp (by omega))
      · rintro ⟨q, hq, hqn, hr⟩
        by_cases e : q = m
        · subst e
          rcases hr with hr | hr
          · omega
          · have := hc.mpr hr; omega
        · have := ih.mpr ⟨q, by omega, hqn, hr⟩; omega
    · rw [if_neg hj]
      constructor
      · intro h
        obtain ⟨q, hq, hr⟩ := ih.mp h
        exact ⟨q, by omega, hr⟩
      · rintro ⟨q, hq, hqn, hr⟩
        by_cases e : q = m
        · subst e; exact absurd hqn hj
        · exact ih.mpr ⟨q, by omega, hqn, hr⟩
theorem Bad_iff {σ : Nat → Int} {t w B : Nat → Int} {j : Nat} (h8 : 1 ≤ σ 8 ∧ σ 8 ≤ 99) (h1 : 0 ≤ t j ∧ t j ≤ 999) (h2 : -70000 ≤ B j ∧ B j ≤ 70000) (h3 : 0 ≤ w j ∧ w j ≤ 40000000) : Bad σ t w B j ↔ (t j < B j ∨ σ 8 * t j < w j) := by
  have h4 := mul_bd (a := σ 8) (b := t j) (A := 99) (B := 999) (by omega) (by omega) (by omega) (by omega) (by omega)
  unfold Bad
  rw [eI_lt (by (first | exact B31_s (by omega) (by omega) | exact B31_of _ | (constructor <;> omega))) (by (first | exact B31_s (by omega) (by omega) | exact B31_of _ | (constructor <;> omega))), eI_lt (by constructor <;> omega) (by constructor <;> omega)]
theorem prt_iff {σ : Nat → Int} (O : LOk σ) {s : Int32} {u : Nat} (hu : u < 400) : (∃ h, h < u ∧ badH σ s h) ↔ ∃ j, j < (rdX σ u).n ∧ Dd σ s u j < lsS σ u j := by
  have hw := O.wear
  have key : ∀ h j, h < u → j < (rdX σ h).n → (Bad σ (Dd σ s h) (rdX σ h).w (br σ (rdX σ h).k (rdX σ h).n ((h : Int) + 1)) j ↔ (Dd σ s u j < br σ (rdX σ h).k (rdX σ h).n ((h : Int) + 1) j ∨ σ 8 * Dd σ s u j < (rdX σ h).w j)) := fun h j hh hj => by
    have R := rd_ok O h (by omega)
    have hst := rd_st2 (σ := σ) (u := h) (u - h)
    have eu : h + (u - h) = u := by omega
    rw [eu] at hst
    have eD : Dd σ s h j = Dd σ s u j := by unfold Dd; rw [hst.2 j hj]
    have hD := Dd_bd O (s := s) (u := h) (by omega) hj
    have h1 := br_bd O R.k (R.n18 O) (h := (h : Int) + 1) (by omega) (j := j) (by omega)
    have h2 := R.w j hj
    have h3 := Bad_iff (σ := σ) (t := Dd σ s h) (w := (rdX σ h).w) (B := br σ (rdX σ h).k (rdX σ h).n ((h : Int) + 1)) (j := j) hw hD h1 ⟨h2.1, by omega⟩
    rw [eD] at h3
    exact h3
  constructor
  · rintro ⟨h, hh, j, hj, hb⟩
    have hst := rd_st2 (σ := σ) (u := h) (u - h)
    have eu : h + (u - h) = u := by omega
    rw [eu] at hst
    have hju : j < (rdX σ u).n := by omega
    have hD := Dd_bd O (s := s) (u := u) hu hju
    exact ⟨j, hju, (lsS_lt O hD.1 u).mpr ⟨h, hh, hj, (key h j hh hj).mp hb⟩⟩
  · rintro ⟨j, hju, hlt⟩
    have hD := Dd_bd O (s := s) (u := u) hu hju
    obtain ⟨h, hh, hj, hr⟩ := (lsS_lt O hD.1 u).mp hlt
    exact ⟨h, hh, j, hj, (key h j hh hj).mpr hr⟩
noncomputable def bcN (σ : Nat → Int) (s : Int32) (u : Nat) : Nat → Nat
  | 0 => 0
  | i + 1 => bcN σ s u i + @ite Nat (∃ h, h < u ∧ badH σ (s + eI i) h) (Classical.propDecidable _) 1 0
theorem bcN_le {σ : Nat → Int} {s : Int32} {u : Nat} : ∀ i, bcN σ s u i ≤ i
  | 0 => Nat.le_refl _
  | i + 1 => by
    have := bcN_le (σ := σ) (s := s) (u := u) i
    unfold bcN
    split <;> omega
noncomputable def betsS (σ : Nat → Int) (n : Int) (s : Int32) (u : Int) : Int := if (1 ≤ n ∧ n ≤ 200) ∧ 0 ≤ u ∧ u < σ 0 then (bcN σ s u.toNat n.toNat : Int) else -1
theorem betS_bd {σ : Nat → Int} (O : LOk σ) (s : Int32) : -1 ≤ betS σ s ∧ betS σ s ≤ 400 := by
  have hU := O.u
  have hb0 := bt0_dq (σ := σ) (s := s) (frn σ 0)
  have e : betS σ s = if lf (fun q => badH σ s (0 + q)) ((σ 0).toNat - 1) < (σ 0).toNat - 1 then ((0 + lf (fun q => badH σ s (0 + q)) ((σ 0).toNat - 1) : Nat) : Int) + 1 else -1 := by
    unfold betS
    rw [hb0.1]
    exact bts_eq O s ((σ 0).toNat - 1) 0 (btX σ s (frn σ 0)) (by omega) rfl (fun j hj => ⟨rfl, rfl, hb0.2 j hj⟩)
  rw [e]
  split <;> omega
theorem M_bets {σ : Nat → Int} (O : LOk σ) {i f w b st wo : F32} {n u : Int} {s : Int32} (hn : B31 n) (hu : B31 u) {Q : Int32 → F32 → F32 → F32 → F32 → F32 → F32 → Prop} (hq : ∀ i' f' w' b' st' wo', KP i i' → Q (eI (betsS σ n s u)) i' f' w' b' st' wo') : w_LongTrainModel_bets i (eF σ) f w b st wo (eI n) s (eI u) Q := by
  have hU := O.u
  unfold w_LongTrainModel_bets
  unfold betsS at hq
  refine M_isIn (b := 1) (c := 200) hn (by (first | exact B31_s (by omega) (by omega) | exact B31_of _ | (constructor <;> omega))) (by (first | exact B31_s (by omega) (by omega) | exact B31_of _ | (constructor <;> omega))) (fun a1 a2 => ?_) (fun a => by (first | refine z0T ?_ | refine z0N ?_); rw [if_neg (by omega)] at hq; exact hq _ _ _ _ _ _ KP.u0)
  (first | refine z1T ?_ | refine z1N ?_)
  refine M_isUnit O hu (fun b1 b2 => ?_) (fun a => by (first | refine z0T ?_ | refine z0N ?_); rw [if_neg (by omega)] at hq; exact hq _ _ _ _ _ _ KP.u0)
  (first | refine z1T ?_ | refine z1N ?_)
  rw [if_pos ⟨⟨a1, a2⟩, b1, b2⟩] at hq
  refine lg_LongTrainModel_bets_32 (G := Nat) (fun g x4 x5 i' f' w' b' st' wo' => (g : Int) ≤ n ∧ x4 = eI (bcN σ s u.toNat g) ∧ x5 = eI g ∧ Kp (upd i 0 0) i') (fun g => n.toNat - g) ?_ 0 ⟨by omega, rfl, rfl, Kp.rf⟩
  rintro kr g x4 x5 i' f' w' b' st' wo' ⟨hg, rfl, rfl, hk⟩ hs
  unfold b_LongTrainModel_bets_32
  refine q_le hn (by (first | exact B31_s (by omega) (by omega) | exact B31_of _ | (constructor <;> omega))) (fun h => ?_) (fun h => ?_)
  · have eg : n.toNat = g := by omega
    rw [eg] at hq
    exact hq _ _ _ _ _ _ hk.P
  · refine M_betOf O (fun i2 f2 w2 b2 st2 wo2 k2 => ?_)
    have hb := betS_bd O (s + eI g)
    have hby := bet_by O (s + eI g) (u := u.toNat) (by omega)
    have no : ¬ (0 ≤ betS σ (s + eI g) ∧ betS σ (s + eI g) ≤ u) → kr (eI (bcN σ s u.toNat g) + 0) (eI g + 1) i2 f2 w2 b2 st2 wo2 := fun hno => by
      refine hs (g + 1) _ _ _ _ _ _ _ _ (by omega) ⟨by omega, ?_, by (try simp only [eI_lit, eI_neg, eI_add, eI_sub, eI_mul, eF_ap, upd_eF]); congr 1, hk.tr k2⟩
      have hx : ¬ ∃ h, h < u.toNat ∧ badH σ (s + eI g) h := fun hx => by have := hby.mpr hx; omega
      rw [bcN, if_neg hx]; simp
    (try simp only [eI_lit, eI_neg, eI_add, eI_sub, eI_mul, eF_ap, upd_eF])
    refine q_lt (by (first | exact B31_s (by omega) (by omega) | exact B31_of _ | (constructor <;> omega))) (by (first | exact B31_s (by omega) (by omega) | exact B31_of _ | (constructor <;> omega))) (fun h2 => ?_) (fun h2 => ?_)
    · have := no (by omega); simp only [eI_lit, eI_add] at this; simpa using this
    · refine q_lt hu (by (first | exact B31_s (by omega) (by omega) | exact B31_of _ | (constructor <;> omega))) (fun h3 => ?_) (fun h3 => ?_)
      · have := no (by omega); simp only [eI_lit, eI_add] at this; simpa using this
      · refine hs (g + 1) _ _ _ _ _ _ _ _ (by omega) ⟨by omega, ?_, by congr 1, hk.tr k2⟩
        have hx : ∃ h, h < u.toNat ∧ badH σ (s + eI g) h := hby.mp (by omega)
        rw [bcN, if_pos hx]; congr 1
theorem C_isParted {σ : Nat → Int} (O : LOk σ) {u : Nat} (hu : u < 400) {ilf i S ls : F32} (h8 : i 8 = eI (rdX σ u).n) (hS : ∀ j, j < (rdX σ u).n → S j = eI (ST σ ((rdX σ u).k j))) (hls : ∀ j, j < (rdX σ u).n → ls j = eI (lsS σ u j)) {s : Int32} (hs : ilf 11 = s) {Q : Int32 → F32 → Prop} (h1 : (∃ h, h < u ∧ badH σ s h) → ∀ ilf', ilf' 3 = ilf 3 → Q 1 ilf') (h0 : ¬ (∃ h, h < u ∧ badH σ s h) → ∀ ilf', ilf' 3 = ilf 3 → Q 0 ilf') : w_Lives_isParted ilf i S ls Q := by
  have R := rd_ok O u hu
  have n18 := R.n18 O
  have hpi := prt_iff O (s := s) hu
  unfold w_Lives_isParted
  refine lg_Lives_isParted_2 (G := Nat) (fun g x ilf' => g ≤ (rdX σ u).n ∧ x = eI g ∧ ilf' 3 = ilf 3 ∧ ilf' 11 = dq s g ∧ ∀ j, j < g → ¬ Dd σ s u j < lsS σ u j) (fun g => (rdX σ u).n - g) ?_ 0 ⟨by omega, rfl, rfl, hs, fun j hj => absurd hj (Nat.not_lt_zero _)⟩
  rintro kr g x ilf' ⟨hg, rfl, h3, h11, hnb⟩ hst
  unfold b_Lives_isParted_2
  rw [h8]
  refine q_le (by (first | exact B31_s (by omega) (by omega) | exact B31_of _ | (constructor <;> omega))) (by (first | exact B31_s (by omega) (by omega) | exact B31_of _ | (constructor <;> omega))) (fun h => ?_) (fun h => ?_)
  · refine h0 (fun hx => ?_) _ h3
    obtain ⟨j, hj, hlt⟩ := hpi.mp hx
    exact hnb j (by omega) hlt
  · have hsb := st_b O R.k (j := g) (by omega)
    have hD := Dd_bd O (s := s) hu (j := g) (by omega)
    have hlb := lsS_bd O u hu g
    refine And.intro (eI_in (by omega) (by omega) (by omega)) ?_; (try simp (disch := omega) only [eI_cl, Int.toNat_natCast])
    rw [hS g (by omega)]
    refine C_drawn hsb.1 hsb.2 ?_
    refine And.intro (eI_in (by omega) (by omega) (by omega)) ?_
    rw [hls g (by omega), h11]
    have eD : drw (dq s g) (eI (ST σ ((rdX σ u).k g))) = eI (Dd σ s u g) := (eI_of _).symm
    rw [eD]
    generalize hdd : Dd σ s u g = dd at *
    refine q_le (by (first | exact B31_s (by omega) (by omega) | exact B31_of _ | (constructor <;> omega))) (by (first | exact B31_s (by omega) (by omega) | exact B31_of _ | (constructor <;> omega))) (fun h2 => ?_) (fun h2 => ?_)
    · refine hst (g + 1) _ _ (by omega) ⟨by omega, by (try simp only [eI_lit, eI_neg, eI_add, eI_sub, eI_mul, eF_ap, upd_eF]); congr 1, by rw [upd_n (by omega)]; exact h3, by rw [upd_s]; rfl, fun j hj => ?_⟩
      by_cases e : j = g
      · subst e; rw [hdd]; exact Int.not_lt.mpr h2
      · exact hnb j (by omega)
    · exact h1 (hpi.mpr ⟨g, by omega, by rw [hdd]; exact h2⟩) _ (by rw [upd_n (by omega)]; exact h3)
theorem tk_rd {σ : Nat → Int} (u : Nat) : tkX σ (wrX σ (rdX σ u) ((u : Int) + 1)) (hb σ u) ((u : Int) + 1) = rdX σ (u + 1) := by
  unfold tkX
  rcases rd_step (σ := σ) u with ⟨ha, he⟩ | ⟨ha, he⟩
  · rw [if_pos ha, he]
    rfl
  · rw [if_neg ha, he]
theorem C_findLeasts {σ : Nat → Int} (O : LOk σ) {i K L W S E P H b ls : F32} {il gl hl fl d : F32} (I : LnI σ il) (G : LnG σ gl) (HH : LnH σ hl) (FF : LnF σ fl) (D : LnK σ d) {u : Nat} (hu : (u : Int) < σ 0) {Q : F32 → F32 → F32 → F32 → F32 → F32 → F32 → F32 → F32 → F32 → Prop} (hq : ∀ i' K' L' W' S' E' P' H' ls' b', RowR σ (rdX σ u) u (hb σ u) i' K' L' W' S' E' P' H' → (∀ j, j < (rdX σ u).n → ls' j = eI (lsS σ u j)) → Q i' K' L' W' S' E' P' H' ls' b') : w_Lives_findLeasts il i hl fl K L W S E P H d ls gl b (eI u) Q := by
  have hU := O.u
  have hwr := O.wear
  unfold w_Lives_findLeasts
  refine R_begin0 O I HH FF D (fun i1 K1 L1 W1 S1 E1 P1 H1 r1 => ?_)
  refine lg_Lives_findLeasts_15 (G := Nat) (fun g x ls' => g ≤ 20 ∧ x = eI g ∧ ∀ j, j < g → ls' j = eI 0) (fun g => 20 - g) ?_ 0 ⟨by omega, rfl, fun j hj => absurd hj (Nat.not_lt_zero _)⟩
  rintro kr g x ls' ⟨hg, rfl, hl0⟩ hs
  unfold b_Lives_findLeasts_15
  refine q_le (a := 20) (by (first | exact B31_s (by omega) (by omega) | exact B31_of _ | (constructor <;> omega))) (by (first | exact B31_s (by omega) (by omega) | exact B31_of _ | (constructor <;> omega))) (fun h => ?_) (fun h => ?_)
  · have eg : g = 20 := by omega
    subst eg
    refine lg_Lives_findLeasts_39 (G := Nat) (fun g x i' K' L' W' S' E' P' H' ls' b' => g ≤ u ∧ x = eI ((g : Int) + 1) ∧ RowR σ (rdX σ g) g (hb σ g) i' K' L' W' S' E' P' H' ∧ ∀ j, j < 20 → ls' j = eI (lsS σ g j)) (fun g => u - g) ?_ 0 ⟨by omega, rfl, r1, hl0⟩
    rintro kr g x i' K' L' W' S' E' P' H' ls' b' ⟨hg, rfl, r, hl⟩ hs
    have R := rd_ok O g (by omega)
    have n18 := R.n18 O
    unfold b_Lives_findLeasts_39
    refine q_lt (by (first | exact B31_s (by omega) (by omega) | exact B31_of _ | (constructor <;> omega))) (by (first | exact B31_s (by omega) (by omega) | exact B31_of _ | (constructor <;> omega))) (fun h => ?_) (fun h => ?_)
    · have eg : g = u := by omega
      subst eg
      exact hq _ _ _ _ _ _ _ _ _ _ r (fun j hj => hl j (by omega))
    · have r2 := r.head ((g : Int) + 1)
      refine R_measure O r2 I G R.k (by omega) (by omega) (Or.inl (by omega)) (fun b2 hbb => ?_)
      have hb2 : ∀ j, j < (rdX σ g).n → b2 j = eI (br σ (rdX σ g).k (rdX σ g).n ((g : Int) + 1) j) := fun j hj => by rw [hbb j hj, brp_0 R.p (by omega)]
      have e8 : upd i' 10 (eI ((g : Int) + 1)) 8 = eI (rdX σ g).n := r2.sz
      refine lg_Lives_findLeasts_60 (G := Nat) (fun m x ls' => m ≤ (rdX σ g).n ∧ x = eI m ∧ (∀ j, j < m → ls' j = eI (lsS σ (g + 1) j)) ∧ ∀ j, m ≤ j → j < 20 → ls' j = eI (lsS σ g j)) (fun m => (rdX σ g).n - m) ?_ 0 ⟨by omega, rfl, fun j hj => absurd hj (Nat.not_lt_zero _), fun j _ hj => hl j hj⟩
      rintro kr2 m x ls2 ⟨hm, rfl, hlo, hhi⟩ hs2
      unfold b_Lives_findLeasts_60
      rw [e8]
      refine q_le (by (first | exact B31_s (by omega) (by omega) | exact B31_of _ | (constructor <;> omega))) (by (first | exact B31_s (by omega) (by omega) | exact B31_of _ | (constructor <;> omega))) (fun h2 => ?_) (fun h2 => ?_)
      · have em : m = (rdX σ g).n := by omega
        subst em
        refine R_addWear r2 (by omega) hb2 (Nat.le_refl _) (fun E3 rE => ?_)
        have rE' : RowR σ (wrX σ (rdX σ g) ((g : Int) + 1)) ((g : Int) + 1) (hb σ g) (upd i' 10 (eI ((g : Int) + 1))) K' L' W' S' E3 P' H' := rE
        refine R_takeOn O rE' I HH D (by (first | exact B31_s (by omega) (by omega) | exact B31_of _ | (constructor <;> omega))) (hb_le O _) (by show (rdX σ g).n < 20; omega) (fun i4 K4 L4 W4 S4 E4 P4 H4 r4 => ?_)
        rw [hb_next O (by omega), tk_rd g] at r4
        have e5 : ((g + 1 : Nat) : Int) = (g : Int) + 1 := by omega
        have r5 : RowR σ (rdX σ (g + 1)) ((g + 1 : Nat) : Int) (hb σ ((g + 1 : Nat) : Int)) i4 K4 L4 W4 S4 E4 P4 H4 := by rw [e5]; exact r4
        (try simp only [eI_lit, eI_neg, eI_add, eI_sub, eI_mul, eF_ap, upd_eF])
        refine hs (g + 1) _ _ _ _ _ _ _ _ _ _ _ (by omega) ⟨by omega, by congr 1, r5, fun j hj => ?_⟩
        by_cases hj2 : j < (rdX σ g).n
        · exact hlo j hj2
        · rw [hhi j (by omega) hj, lsS, if_neg hj2]
      · have hw := R.w m (by omega)
        have h1 := br_bd O R.k n18 (h := (g : Int) + 1) (by omega) (j := m) (by omega)
        have hlb := lsS_bd O g (by omega) m
        have hcd := Int.ediv_le_self (a := (rdX σ g).w m + σ 8 - 1) (σ 8) (by omega)
        have hcd0 := Int.ediv_nonneg (a := (rdX σ g).w m + σ 8 - 1) (b := σ 8) (by omega) (by omega)
        rw [I.wear]
        (try simp only [eI_lit, eI_neg, eI_add, eI_sub, eI_mul, eF_ap, upd_eF])
        refine q_lt (by (first | exact B31_s (by omega) (by omega) | exact B31_of _ | (constructor <;> omega))) (by (first | exact B31_s (by omega) (by omega) | exact B31_of _ | (constructor <;> omega))) (fun _ => ?_) (fun h => by omega)
        refine And.intro (eI_in (by omega) (by omega) (by omega)) ?_; (try simp (disch := omega) only [eI_cl, Int.toNat_natCast])
        rw [r2.e m (by omega)]
        refine ⟨fun hz => ?_, ?_⟩
        · have := (eI_eq (by (first | exact B31_s (by omega) (by omega) | exact B31_of _ | (constructor <;> omega))) (by (first | exact B31_s (by omega) (by omega) | exact B31_of _ | (constructor <;> omega)))).mp hz; omega
        · unfold j_Lives_findLeasts_99
          (try simp only [eI_lit, eI_neg, eI_add, eI_sub, eI_mul, eF_ap, upd_eF])
          rw [eI_div (by omega) (by omega) (by omega) (by omega)]
          refine And.intro (eI_in (by omega) (by omega) (by omega)) ?_; refine And.intro (eI_in (by omega) (by omega) (by omega)) ?_; refine And.intro (eI_in (by omega) (by omega) (by omega)) ?_; (try simp (disch := omega) only [eI_cl, Int.toNat_natCast])
          rw [hb2 m (by omega), hhi m (Nat.le_refl _) (by omega), jmax_e (by (first | exact B31_s (by omega) (by omega) | exact B31_of _ | (constructor <;> omega))) (by (first | exact B31_s (by omega) (by omega) | exact B31_of _ | (constructor <;> omega))), jmax_e (by (first | exact B31_s (by omega) (by omega) | exact B31_of _ | (constructor <;> omega))) (by (first | exact B31_s (by omega) (by omega) | exact B31_of _ | (constructor <;> omega)))]
          (try simp only [eI_lit, eI_neg, eI_add, eI_sub, eI_mul, eF_ap, upd_eF])
          refine hs2 (m + 1) _ _ (by omega) ⟨by omega, by congr 1, fun j hj => ?_, fun j hj hj2 => ?_⟩
          · by_cases e : j = m
            · subst e; rw [upd_s, lsS, if_pos (by omega)]
            · rw [upd_n e]; exact hlo j (by omega)
          · rw [upd_n (by omega)]; exact hhi j (by omega) hj2
  · refine And.intro (eI_in (by omega) (by omega) (by omega)) ?_; (try simp (disch := omega) only [eI_cl, Int.toNat_natCast])
    (try simp only [eI_lit, eI_neg, eI_add, eI_sub, eI_mul, eF_ap, upd_eF])
    refine hs (g + 1) _ _ (by omega) ⟨by omega, by congr 1, fun j hj => ?_⟩
    by_cases e : j = g
    · subst e; rw [upd_s]
    · rw [upd_n e]; exact hl0 j (by omega)
theorem C_bets {σ : Nat → Int} (O : LOk σ) {ilf i K L W S E P H b ls : F32} {il gl hl fl d : F32} (I : LnI σ il) (G : LnG σ gl) (HH : LnH σ hl) (FF : LnF σ fl) (D : LnK σ d) {n u : Int} {s : Int32} (hn : B31 n) (hu : B31 u) {Q : Int32 → F32 → F32 → F32 → F32 → F32 → F32 → F32 → F32 → F32 → F32 → F32 → Prop} (hq : ∀ ilf' i' K' L' W' S' E' P' H' ls' b', ilf' 3 = ilf 3 → Q (eI (betsS σ n s u)) ilf' i' K' L' W' S' E' P' H' ls' b') : w_LongTrain_bets il ilf i hl fl K L W S E P H d ls gl b (eI n) s (eI u) Q := by
  have hU := O.u
  unfold w_LongTrain_bets
  unfold betsS at hq
  have no : ¬ ((1 ≤ n ∧ n ≤ 200) ∧ 0 ≤ u ∧ u < σ 0) → Q (-1) ilf i K L W S E P H ls b := fun hno => by rw [if_neg hno] at hq; exact hq _ _ _ _ _ _ _ _ _ _ _ rfl
  refine q_lt (b := 1) hn (by (first | exact B31_s (by omega) (by omega) | exact B31_of _ | (constructor <;> omega))) (fun h => no (by omega)) (fun a1 => ?_)
  refine q_lt (a := 200) (by (first | exact B31_s (by omega) (by omega) | exact B31_of _ | (constructor <;> omega))) hn (fun h => no (by omega)) (fun a2 => ?_)
  refine C_isUnit O I hu (fun b1 b2 => ?_) (fun h => by (first | refine z0T ?_ | refine z0N ?_); exact no (by omega))
  (first | refine z1T ?_ | refine z1N ?_)
  rw [if_pos ⟨⟨a1, a2⟩, b1, b2⟩] at hq
  unfold w_Lives_betsPartedBy
  have eu : u = ((u.toNat : Nat) : Int) := by omega
  rw [eu]
  refine C_findLeasts O I G HH FF D (by omega) (fun i1 K1 L1 W1 S1 E1 P1 H1 ls1 b1' r1 hls => ?_)
  have R := rd_ok O u.toNat (by omega)
  refine lg_Lives_betsPartedBy_13 (G := Nat) (fun g x5 x6 ilf' => (g : Int) ≤ n ∧ x5 = eI (bcN σ s u.toNat g) ∧ x6 = eI g ∧ ilf' 3 = ilf 3) (fun g => n.toNat - g) ?_ 0 ⟨by omega, rfl, rfl, rfl⟩
  rintro kr g x5 x6 ilf' ⟨hg, rfl, rfl, h3⟩ hs
  unfold b_Lives_betsPartedBy_13
  refine q_le hn (by (first | exact B31_s (by omega) (by omega) | exact B31_of _ | (constructor <;> omega))) (fun h => ?_) (fun h => ?_)
  · have eg : n.toNat = g := by omega
    rw [eg] at hq
    exact hq _ _ _ _ _ _ _ _ _ _ _ h3
  · refine C_isParted O (u := u.toNat) (by omega) r1.sz (fun j hj => by rw [r1.s j hj, R.s j hj]) hls upd_s (fun hx ilf2 k2 => ?_) (fun hx ilf2 k2 => ?_)
    · (first | refine z1T ?_ | refine z1N ?_)
      (try simp only [eI_lit, eI_neg, eI_add, eI_sub, eI_mul, eF_ap, upd_eF])
      refine hs (g + 1) _ _ _ (by omega) ⟨by omega, ?_, by congr 1, by rw [k2, upd_n (by omega)]; exact h3⟩
      rw [bcN, if_pos hx]; congr 1
    · (first | refine z0T ?_ | refine z0N ?_)
      refine hs (g + 1) _ _ _ (by omega) ⟨by omega, ?_, by (try simp only [eI_lit, eI_neg, eI_add, eI_sub, eI_mul, eF_ap, upd_eF]); congr 1, by rw [k2, upd_n (by omega)]; exact h3⟩
      rw [bcN, if_neg hx]; congr 1
