/-! longest of the class: may a row of places be better -/
def GSm (σ : Nat → Int) (gs : F32) : Prop := ∀ u : Nat, (u : Int) ≤ σ 0 → gs u = eI (sm (fun v => σ (11 + v)) u)
theorem gsm_bd {σ : Nat → Int} (O : LOk σ) {u : Int} (h : u < 400) : -3600 ≤ gsm σ u ∧ gsm σ u ≤ 3600 := by
  unfold gsm
  split
  · omega
  · have := sm_bd (f := fun v => σ (11 + v)) (lo := -9) (hi := 9) (n := (u + 1).toNat) (fun j hj => O.gr j (by omega))
    omega
theorem cDd_bd {σ : Nat → Int} (O : LOk σ) {k : Nat → Int} {n j : Nat} (hk : KOk σ k n) (hj : j < n) {s h : Int} (h0 : 0 ≤ s) (h1 : s ≤ h) (h2 : h ≤ 400) : -1100000 ≤ cDd σ k j s h ∧ cDd σ k j s h ≤ 1100000 := by
  have hl := sm_lg O hk (i := j) (by omega)
  have g1 := gsm_bd O (u := h - 1 - sm (fun q => LG σ (k q)) j) (by omega)
  have g2 := gsm_bd O (u := s - 1 - sm (fun q => LG σ (k q)) j) (by omega)
  have hr := O.rub
  have hm := mul_bd (a := h - s) (b := σ 6) (A := 400) (B := 9) (by omega) (by omega) (by omega) (by omega) (by omega)
  have hkj := hk j hj
  have hw := (O.kd (k j) hkj.1 hkj.2).2.1
  have := mul_bd (a := WT σ (k j)) (b := gsm σ (h - 1 - sm (fun q => LG σ (k q)) j) - gsm σ (s - 1 - sm (fun q => LG σ (k q)) j) + (h - s) * σ 6) (A := 99) (B := 10800) (by omega) (by omega) (by omega) (by omega) (by omega)
  unfold cDd
  omega
theorem C_gradesTo {σ : Nat → Int} (O : LOk σ) {il gs : F32} (I : LnI σ il) (GS : GSm σ gs) {u : Int} (h0 : -10000 ≤ u) (h1 : u < σ 0) {Q : Int32 → Prop} (hq : Q (eI (gsm σ u))) : w_Lives_gradesTo il gs (eI u) Q := by
  have hU := O.u
  unfold w_Lives_gradesTo
  rw [I.u]
  unfold gsm at hq
  refine q_ge0 (by (first | exact B31_s (by omega) (by omega) | exact B31_of _ | (constructor <;> omega))) (fun h => ?_) (fun h => ?_)
  · rw [if_neg (by omega)] at hq
    have e1 : eI u + 1 = eI (u + 1) := by (try simp only [eI_lit, eI_neg, eI_add, eI_sub, eI_mul, eF_ap, upd_eF])
    have e2 : min (u + 1) (σ 0) = u + 1 := by omega
    rw [e1, jmin_e (by (first | exact B31_s (by omega) (by omega) | exact B31_of _ | (constructor <;> omega))) (by (first | exact B31_s (by omega) (by omega) | exact B31_of _ | (constructor <;> omega))), e2]
    refine And.intro (eI_in (by omega) (by omega) (by omega)) ?_; (try simp (disch := omega) only [eI_cl, Int.toNat_natCast])
    rw [GS _ (by omega)]
    exact hq
  · rw [if_pos h] at hq; exact hq
theorem C_isWornBy {σ : Nat → Int} (O : LOk σ) {Y : RW} {hd : Int} {nh : Nat} {ia K L W S E P Hh : F32} (r : RowR σ Y hd nh ia K L W S E P Hh) {il gs sn : F32} (I : LnI σ il) (GS : GSm σ gs) (hk : KOk σ Y.k Y.n) (hn : Y.n ≤ 18) {sc : Nat → Int} (hs : ∀ j, j < Y.n → sn j = eI (sc j)) {H : Int} (hH : 1 ≤ H ∧ H < σ 0) (hsc : ∀ j, j < Y.n → 0 ≤ sc j ∧ sc j ≤ H - 1) (hwb : ∀ j, j < Y.n → 0 ≤ Y.w j ∧ Y.w j ≤ 28000000) (hsb : ∀ j, j < Y.n → 1 ≤ Y.s j ∧ Y.s j ≤ 999) {Q : Int32 → Prop} (h1 : (∃ i, i < Y.n ∧ σ 8 * Y.s i < Y.w i + (sm (fun j => cDd σ Y.k j (sc j) (H - 1)) Y.n - sm (fun j => cDd σ Y.k j (sc j) (H - 1)) i)) → Q 1) (h0 : Q 0) : w_Lives_isWornBy il ia L gs sn W E S (eI H) Q := by
  have hU := O.u
  have hwr := O.wear
  have hrub := O.rub
  unfold w_Lives_isWornBy
  rw [r.sz, r.tot]
  have smb : ∀ i, i ≤ Y.n → -1100000 * (i : Int) ≤ sm (fun j => cDd σ Y.k j (sc j) (H - 1)) i ∧ sm (fun j => cDd σ Y.k j (sc j) (H - 1)) i ≤ 1100000 * (i : Int) := fun i hi => sm_bd (fun j hj => cDd_bd O hk (by omega) (hsc j (by omega)).1 (hsc j (by omega)).2 (by omega))
  refine lg_Lives_isWornBy_22 (G := Nat) (fun q x3 x4 x5 => q ≤ Y.n ∧ x3 = eI (sm (fun j => LG σ (Y.k j)) q) ∧ x4 = eI (sm (fun j => cDd σ Y.k j (sc j) (H - 1)) Y.n - sm (fun j => cDd σ Y.k j (sc j) (H - 1)) q) ∧ x5 = eI ((q : Int) - 1)) (fun q => q) ?_ Y.n ⟨Nat.le_refl _, rfl, by rw [Int.sub_self]; rfl, by (try simp only [eI_lit, eI_neg, eI_add, eI_sub, eI_mul, eF_ap, upd_eF])⟩
  rintro kr q x3 x4 x5 ⟨hq, rfl, rfl, rfl⟩ hst
  unfold b_Lives_isWornBy_22
  refine q_lt0 (by (first | exact B31_s (by omega) (by omega) | exact B31_of _ | (constructor <;> omega))) (fun _ => h0) (fun hge => ?_)
  obtain ⟨q', rfl⟩ : ∃ q', q = q' + 1 := ⟨q - 1, by omega⟩
  have e1 : ((q' + 1 : Nat) : Int) - 1 = (q' : Int) := by omega
  rw [e1]
  have hkq := hk q' (by omega)
  have hkd := O.kd (Y.k q') hkq.1 hkq.2
  have hlq := sm_lg O hk (i := q') (by omega)
  have hsq := hsc q' (by omega)
  refine And.intro (eI_in (by omega) (by omega) (by omega)) ?_
  have tq : (eI (q' : Int)).toNatClampNeg = q' := by rw [eI_cl (by omega) (by omega)]; omega
  rw [tq, r.l q' (by omega), hs q' (by omega), r.w q' (by omega), r.e q' (by omega), r.s q' (by omega)]
  have e2 : eI H - 2 - (eI (sm (fun j => LG σ (Y.k j)) (q' + 1)) - eI (LG σ (Y.k q'))) = eI (H - 1 - 1 - sm (fun j => LG σ (Y.k j)) q') := by rw [sm]; (try simp only [eI_lit, eI_neg, eI_add, eI_sub, eI_mul, eF_ap, upd_eF]); congr 1; omega
  rw [e2]
  refine C_gradesTo O I GS (by omega) (by omega) ?_
  refine And.intro (eI_in (by omega) (by omega) (by omega)) ?_
  have e3 : eI (sc q') - 1 - (eI (sm (fun j => LG σ (Y.k j)) (q' + 1)) - eI (LG σ (Y.k q'))) = eI (sc q' - 1 - sm (fun j => LG σ (Y.k j)) q') := by rw [sm]; (try simp only [eI_lit, eI_neg, eI_add, eI_sub, eI_mul, eF_ap, upd_eF]); congr 1; omega
  rw [e3]
  refine C_gradesTo O I GS (by omega) (by omega) ?_
  refine And.intro (eI_in (by omega) (by omega) (by omega)) ?_
  refine And.intro (eI_in (by omega) (by omega) (by omega)) ?_
  refine And.intro (eI_in (by omega) (by omega) (by omega)) ?_
  refine And.intro (eI_in (by omega) (by omega) (by omega)) ?_
  have ec : cDd σ Y.k q' (sc q') (H - 1) = WT σ (Y.k q') * (gsm σ (H - 1 - 1 - sm (fun j => LG σ (Y.k j)) q') - gsm σ (sc q' - 1 - sm (fun j => LG σ (Y.k j)) q') + (H - 1 - sc q') * σ 6) := rfl
  have ex : eI (sm (fun j => cDd σ Y.k j (sc j) (H - 1)) Y.n - sm (fun j => cDd σ Y.k j (sc j) (H - 1)) (q' + 1)) + eI (WT σ (Y.k q')) * (eI (gsm σ (H - 1 - 1 - sm (fun j => LG σ (Y.k j)) q')) - eI (gsm σ (sc q' - 1 - sm (fun j => LG σ (Y.k j)) q')) + (eI H - 1 - eI (sc q')) * il 12) = eI (sm (fun j => cDd σ Y.k j (sc j) (H - 1)) Y.n - sm (fun j => cDd σ Y.k j (sc j) (H - 1)) q') := by
    rw [I.rub]
    (try simp only [eI_lit, eI_neg, eI_add, eI_sub, eI_mul, eF_ap, upd_eF])
    rw [← ec]
    congr 1
    show _ - (sm (fun j => cDd σ Y.k j (sc j) (H - 1)) q' + cDd σ Y.k q' (sc q') (H - 1)) + _ = _
    omega
  have ey : eI (sm (fun j => LG σ (Y.k j)) (q' + 1)) - eI (LG σ (Y.k q')) = eI (sm (fun j => LG σ (Y.k j)) q') := by rw [sm]; (try simp only [eI_lit, eI_neg, eI_add, eI_sub, eI_mul, eF_ap, upd_eF]); congr 1; omega
  rw [ex, ey, I.wear, eI_add, eI_mul]
  have b1 := smb Y.n (Nat.le_refl _)
  have b2 := smb q' (by omega)
  have b3 := hwb q' (by omega)
  have b4 := hsb q' (by omega)
  have b5 := mul_bd (a := σ 8) (b := Y.s q') (A := 99) (B := 999) (by omega) (by omega) (by omega) (by omega) (by omega)
  refine q_le (by constructor <;> omega) (by constructor <;> omega) (fun hle => ?_) (fun hlt => h1 ⟨q', by omega, by omega⟩)
  refine hst q' _ _ _ (by omega) ⟨by omega, rfl, rfl, by (try simp only [eI_lit, eI_neg, eI_add, eI_sub, eI_mul, eF_ap, upd_eF]); congr 1⟩
theorem C_isOverborneBy {σ : Nat → Int} (O : LOk σ) {Y : RW} {hd : Int} {nh : Nat} {i ia K L W S E P Hh : F32} (r : RowR σ Y hd nh ia K L W S E P Hh) {il gl sn b : F32} (I : LnI σ il) (G : LnG σ gl) (hk : KOk σ Y.k Y.n) (hn : Y.n ≤ 18) (hp0 : ∀ j, j < Y.n → Y.p j = 0) {sc : Nat → Int} (hs : ∀ j, j < Y.n → sn j = eI (sc j)) (hsc : ∀ j, j < Y.n → 0 ≤ sc j ∧ sc j ≤ 400) (hsb : ∀ j, j < Y.n → 1 ≤ Y.s j ∧ Y.s j ≤ 999) (hhd : 0 ≤ hd ∧ hd ≤ 400) {dh : Int} (hdh : -1 ≤ dh ∧ dh ≤ 400) (h8 : i 8 = eI dh) {H : Int} (hH : 1 ≤ H ∧ H < σ 0) {Q : Int32 → F32 → F32 → Prop} (h1 : hd < dh → dh ≤ H → (∃ q, q ≤ Y.n ∧ (∀ j, q ≤ j → j < Y.n → dh ≤ sc j) ∧ (0 < q → sc (q - 1) < dh) ∧ ∃ j, j < q ∧ Y.s j < br σ Y.k q dh j) → ∀ ia' b', Q 1 ia' b') (h0 : ∀ ia' b', Q 0 ia' b') : w_Lives_isOverborneBy i il ia sn L gl W P b S (eI H) Q := by
  have hU := O.u
  unfold w_Lives_isOverborneBy
  rw [h8, r.hd, r.sz]
  refine q_le (by (first | exact B31_s (by omega) (by omega) | exact B31_of _ | (constructor <;> omega))) (by (first | exact B31_s (by omega) (by omega) | exact B31_of _ | (constructor <;> omega))) (fun _ => h0 _ _) (fun hlt => ?_)
  refine q_le (by (first | exact B31_s (by omega) (by omega) | exact B31_of _ | (constructor <;> omega))) (by (first | exact B31_s (by omega) (by omega) | exact B31_of _ | (constructor <;> omega))) (fun hle => ?_) (fun _ => h0 _ _)
  refine lg_Lives_isOverborneBy_32 (G := Nat) (fun q x => q ≤ Y.n ∧ x = eI ((q : Nat) : Int) ∧ ∀ j, q ≤ j → j < Y.n → dh ≤ sc j) (fun q => q) ?_ Y.n ⟨Nat.le_refl _, rfl, fun j h1 h2 => by omega⟩
  rintro kr q x ⟨hq, rfl, hall⟩ hst
  have fin : (0 < q → sc (q - 1) < dh) → j_Lives_isOverborneBy_57 i il ia L gl W P b S (eI ((q : Nat) : Int)) Q := fun hq0 => by
    unfold j_Lives_isOverborneBy_57
    refine R_dropFrom r (by omega) hq (fun i' a8 a9 a10 a11 => ?_)
    rw [h8]
    have r2 : RowR σ ⟨q, Y.k, Y.s, Y.w, Y.p, Y.h⟩ dh nh (upd i' 10 (eI dh)) K L W S E P Hh := by
      refine ⟨by rw [upd_n (by omega)]; exact a8, by rw [upd_n (by omega)]; exact a9, upd_s, by rw [upd_n (by omega)]; exact a11, fun j hj => r.k j ?_, fun j hj => r.l j ?_, fun j hj => r.w j ?_, fun j hj => r.s j ?_, fun j hj => r.e j ?_, fun j hj => r.p j ?_, fun j hj => r.h j ?_⟩
      all_goals (have hj' : j < q := hj; omega)
    have hkq : KOk σ Y.k q := fun j hj => hk j (by omega)
    refine R_measure O r2 I G hkq (by show q ≤ 20; omega) (by omega) (Or.inl (by omega)) (fun b' hb => ?_)
    have hb' : ∀ j, j < q → b' j = eI (br σ Y.k q dh j) := fun j hj => by
      rw [hb j hj, brp_0 (X := ⟨q, Y.k, Y.s, Y.w, Y.p, Y.h⟩) (fun j' hj' => hp0 j' (by have hj2 : j' < q := hj'; omega)) (by show j ≤ q; omega)]
    refine R_isOverborne r2 (by show q ≤ 20; omega) hb' (fun hex => ?_) (fun hno => h0 _ _)
    obtain ⟨j, hj, hjl⟩ := hex
    have hj' : j < q := hj
    have hb1 := br_bd O hkq (by omega) (h := dh) (by omega) (j := j) (by omega)
    have hs1 := hsb j (by omega)
    exact h1 hlt hle ⟨q, hq, hall, hq0, j, hj', (eI_lt (by constructor <;> omega) (by constructor <;> omega)).mp hjl⟩ _ _
  unfold b_Lives_isOverborneBy_32
  refine q_le0 (by (first | exact B31_s (by omega) (by omega) | exact B31_of _ | (constructor <;> omega))) (fun h => fin (fun h2 => by omega)) (fun h => ?_)
  obtain ⟨q', rfl⟩ : ∃ q', q = q' + 1 := ⟨q - 1, by omega⟩
  have e1 : eI ((q' + 1 : Nat) : Int) - 1 = eI ((q' : Nat) : Int) := by (try simp only [eI_lit, eI_neg, eI_add, eI_sub, eI_mul, eF_ap, upd_eF]); congr 1; omega
  rw [e1]
  refine And.intro (eI_in (by omega) (by omega) (by omega)) ?_; (try simp (disch := omega) only [eI_cl, Int.toNat_natCast])
  have hsq := hsc q' (by omega)
  rw [hs q' (by omega), h8]
  refine q_lt (by (first | exact B31_s (by omega) (by omega) | exact B31_of _ | (constructor <;> omega))) (by (first | exact B31_s (by omega) (by omega) | exact B31_of _ | (constructor <;> omega))) (fun hl => fin (fun _ => hl)) (fun hl => ?_)
  refine hst q' _ (by omega) ⟨by omega, by (try simp only [eI_lit, eI_neg, eI_add, eI_sub, eI_mul, eF_ap, upd_eF]); congr 1; omega, fun j h1 h2 => ?_⟩
  by_cases e : j = q'
  · subst e; exact hl
  · exact hall j (by omega) h2
