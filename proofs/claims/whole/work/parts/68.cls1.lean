/-! the class: climb, needed, sanded -/
theorem eI_div {a b : Int} (ha : 0 ≤ a) (ha2 : a ≤ 2147483647) (hb : 0 < b) (hb2 : b ≤ 2147483647) : eI a / eI b = eI (a / b) := by
  have m1 : Int32.minValue.toInt = -2147483648 := by decide
  have m2 : Int32.maxValue.toInt = 2147483647 := by decide
  have h := Int32.ofInt_tdiv (a := a) (b := b) (by omega) (by omega) (by omega) (by omega)
  rw [Int.tdiv_eq_ediv_of_nonneg ha] at h
  exact h.symm
theorem jmax_e {a b : Int} (ha : B31 a) (hb : B31 b) : jmax (eI a) (eI b) = eI (max a b) := by
  unfold jmax
  by_cases h : a < b
  · rw [if_pos ((eI_lt ha hb).mpr h)]; congr 1; omega
  · rw [if_neg (fun h2 => h ((eI_lt ha hb).mp h2))]; congr 1; omega
theorem jmin_e {a b : Int} (ha : B31 a) (hb : B31 b) : jmin (eI a) (eI b) = eI (min a b) := by
  unfold jmin
  by_cases h : b < a
  · rw [if_pos ((eI_lt hb ha).mpr h)]; congr 1; omega
  · rw [if_neg (fun h2 => h ((eI_lt hb ha).mp h2))]; congr 1; omega
theorem C_isUnit {σ : Nat → Int} (O : LOk σ) {il : F32} (I : LnI σ il) {x : Int} (hx : B31 x) {Q : Int32 → Prop} (h1 : 0 ≤ x → x < σ 0 → Q 1) (h0 : ¬ (0 ≤ x ∧ x < σ 0) → Q 0) : w_LongTrain_isUnit il (eI x) Q := by
  unfold w_LongTrain_isUnit
  rw [I.u]
  (try simp only [eI_lit, eI_neg, eI_add, eI_sub, eI_mul, eF_ap, upd_eF])
  refine q_lt hx (by (first | exact B31_s (by omega) (by omega) | exact B31_of _ | (constructor <;> omega))) (fun h => h0 (by omega)) (fun h => ?_)
  exact q_le (by (first | exact B31_s (by omega) (by omega) | exact B31_of _ | (constructor <;> omega))) hx (fun h2 => h0 (by omega)) (fun h2 => h1 h h2)
theorem C_isHalt {σ : Nat → Int} (O : LOk σ) {il : F32} (I : LnI σ il) {x : Int} (hx : B31 x) {Q : Int32 → Prop} (h1 : 0 ≤ x → x < σ 1 → Q 1) (h0 : ¬ (0 ≤ x ∧ x < σ 1) → Q 0) : w_LongTrain_isHalt il (eI x) Q := by
  unfold w_LongTrain_isHalt
  rw [I.hc]
  (try simp only [eI_lit, eI_neg, eI_add, eI_sub, eI_mul, eF_ap, upd_eF])
  refine q_lt hx (by (first | exact B31_s (by omega) (by omega) | exact B31_of _ | (constructor <;> omega))) (fun h => h0 (by omega)) (fun h => ?_)
  exact q_le (by (first | exact B31_s (by omega) (by omega) | exact B31_of _ | (constructor <;> omega))) hx (fun h2 => h0 (by omega)) (fun h2 => h1 h h2)
theorem C_isKind {σ : Nat → Int} (O : LOk σ) {il : F32} (I : LnI σ il) {x : Int} (hx : B31 x) {Q : Int32 → Prop} (h1 : 0 ≤ x → x < σ 3 → Q 1) (h0 : ¬ (0 ≤ x ∧ x < σ 3) → Q 0) : w_LongTrain_isKind il (eI x) Q := by
  unfold w_LongTrain_isKind
  rw [I.kc]
  (try simp only [eI_lit, eI_neg, eI_add, eI_sub, eI_mul, eF_ap, upd_eF])
  refine q_lt hx (by (first | exact B31_s (by omega) (by omega) | exact B31_of _ | (constructor <;> omega))) (fun h => h0 (by omega)) (fun h => ?_)
  exact q_le (by (first | exact B31_s (by omega) (by omega) | exact B31_of _ | (constructor <;> omega))) hx (fun h2 => h0 (by omega)) (fun h2 => h1 h h2)
theorem C_isWay {σ : Nat → Int} (O : LOk σ) {il : F32} (I : LnI σ il) {x y : Int} (hx : B31 x) (hy : B31 y) {Q : Int32 → Prop} (h1 : 0 ≤ x → x ≤ y → y < σ 0 → Q 1) (h0 : ¬ (0 ≤ x ∧ x ≤ y ∧ y < σ 0) → Q 0) : w_LongTrain_isWay il (eI x) (eI y) Q := by
  unfold w_LongTrain_isWay
  refine C_isUnit O I hx (fun a b => ?_) (fun a => ?_)
  · (first | refine z1T ?_ | refine z1N ?_)
    refine C_isUnit O I hy (fun c d => ?_) (fun c => ?_)
    · (first | refine z1T ?_ | refine z1N ?_)
      exact q_lt hy hx (fun h => h0 (by omega)) (fun h => h1 a h d)
    · (first | refine z0T ?_ | refine z0N ?_); exact h0 (by omega)
  · (first | refine z0T ?_ | refine z0N ?_); exact h0 (by omega)
theorem C_isRunUp {x : Int} (hx : B31 x) {Q : Int32 → Prop} (h1 : 0 ≤ x → x ≤ 99999 → Q 1) (h0 : ¬ (0 ≤ x ∧ x ≤ 99999) → Q 0) : w_LongTrain_isRunUp (eI x) Q := by
  unfold w_LongTrain_isRunUp
  (try simp only [eI_lit, eI_neg, eI_add, eI_sub, eI_mul, eF_ap, upd_eF])
  refine q_lt hx (by (first | exact B31_s (by omega) (by omega) | exact B31_of _ | (constructor <;> omega))) (fun h => h0 (by omega)) (fun h => ?_)
  exact q_lt (by (first | exact B31_s (by omega) (by omega) | exact B31_of _ | (constructor <;> omega))) hx (fun h2 => h0 (by omega)) (fun h2 => h1 h h2)
abbrev QR9 := F32 → F32 → F32 → F32 → F32 → F32 → F32 → F32 → F32 → Prop
theorem FX_p (σ : Nat → Int) (m : Nat) : ∀ j, j < (FX σ m).n → (FX σ m).p j = 0 := fun _ _ => rfl
/-- measure of a free row that stands at t, ahead of what comes on there -/
theorem R_measF {σ} (O : LOk σ) {t : Int} {i K L W S E P H : F32} (r : RowR σ (FX σ (hz σ t)) t (hz σ t) i K L W S E P H) {il gl : F32} (I : LnI σ il) (G : LnG σ gl) (h0 : 0 ≤ t) (h1 : t < σ 0) {b : F32} {Q : Int32 → F32 → Prop} (hq : ∀ b', (∀ j, j < fN σ t → b' j = eI (fB σ t j)) → Q (eI (fL σ t)) b') : w_Row_measure i il L gl W P b Q := by
  have e := fr_hz O h0
  have hn : frn σ (hz σ t) ≤ 18 := frn_18 O (hz_le O t)
  refine R_measure O r I G (KOk.fr O (hz_le O t)) (by show frn σ (hz σ t) ≤ 20; omega) h0 (Or.inl h1) (fun b' hb => ?_)
  have e2 : ldp σ (FX σ (hz σ t)) t = fL σ t := by
    rw [ldp_0 (FX_p σ _)]
    show ld σ (frk σ (hz σ t)) (frn σ (hz σ t)) t = _
    rw [e.1, e.2]; rfl
  rw [e2]
  refine hq b' (fun j hj => ?_)
  have hj' : j < frn σ (hz σ t) := by rw [e.1]; exact hj
  rw [hb j hj', brp_0 (FX_p σ _) (Nat.le_of_lt hj')]
  show eI (br σ (frk σ (hz σ t)) (frn σ (hz σ t)) t j) = _
  rw [e.1, e.2]; rfl
theorem R_gainF {σ} (O : LOk σ) {t : Int} {i K L W S E P H : F32} (r : RowR σ (FX σ (hb σ t)) t (hb σ t) i K L W S E P H) {il gl : F32} (I : LnI σ il) (G : LnG σ gl) (h0 : 0 ≤ t) (h1 : t + 1 < σ 0) {b : F32} {Q : Int32 → F32 → F32 → Prop} (hq : ∀ i' b', RowR σ (FX σ (hz σ (t + 1))) (t + 1) (hz σ (t + 1)) i' K L W S E P H → (∀ j, j < fN σ (t + 1) → b' j = eI (fB σ (t + 1) j)) → Q (eI (σ 4 - fL σ (t + 1))) i' b') : w_Free_gainAt il i L gl W P b (eI (t + 1)) Q := by
  unfold w_Free_gainAt
  have r1 := r.head (t + 1)
  rw [← hz_next h0] at r1
  refine R_measF O r1 I G (by omega) h1 (fun b' hb => ?_)
  rw [I.pull]
  (try simp only [eI_lit, eI_neg, eI_add, eI_sub, eI_mul, eF_ap, upd_eF])
  exact hq _ _ r1 hb
theorem C_climbed {σ} (O : LOk σ) {i K L W S E P H b : F32} {il gl hl fl d : F32} (I : LnI σ il) (G : LnG σ gl) (HH : LnH σ hl) (FF : LnF σ fl) (D : LnK σ d) {x y e : Int} (hx : 0 ≤ x) (hxy : x ≤ y) (hy : y < σ 0) (he : 0 ≤ e) (he2 : e ≤ 99999) {Q : Int32 → QR9} (hq : ∀ i' K' L' W' S' E' P' H' b', Q (eI (comesS σ x y e 0)) i' K' L' W' S' E' P' H' b') : w_Free_climbed il i hl fl K L W S E P H d gl b (eI x) (eI y) (eI e) Q := by
  have hu := O.u
  unfold w_Free_climbed
  refine R_start O I HH FF D hx (by omega) (fun i' K' L' W' S' E' P' H' r => ?_)
  (try simp only [eI_lit, eI_neg, eI_add, eI_sub, eI_mul, eF_ap, upd_eF])
  refine lg_Free_climbed_15 (G := Nat) (fun g x5 x6 i' K' L' W' S' E' P' H' b' => x + g ≤ y ∧ x5 = eI (rn σ x e 0 g) ∧ x6 = eI (x + g + 1) ∧ RowR σ (FX σ (hb σ (x + g))) (x + g) (hb σ (x + g)) i' K' L' W' S' E' P' H' ∧ ∀ m, m < g → ¬ rn σ x e 0 (m + 1) < 0) (fun g => (y - x).toNat - g) ?_ 0 ⟨by omega, by simp [rn, sm], by congr 1; omega, by simpa using r, fun m hm => absurd hm (Nat.not_lt_zero _)⟩
  rintro kr g x5 x6 i' K' L' W' S' E' P' H' b' ⟨hg, rfl, rfl, r, hnb⟩ hstep
  unfold b_Free_climbed_15
  (try simp only [eI_lit, eI_neg, eI_add, eI_sub, eI_mul, eF_ap, upd_eF])
  refine q_lt (by (first | exact B31_s (by omega) (by omega) | exact B31_of _ | (constructor <;> omega))) (by (first | exact B31_s (by omega) (by omega) | exact B31_of _ | (constructor <;> omega))) (fun h => ?_) (fun h => ?_)
  · have e1 : comesS σ x y e 0 = y := by
      unfold comesS
      rw [lf_eq (m := (y - x).toNat) (Nat.le_refl _) (fun j hj => hnb j (by omega)) (fun h => absurd h (Nat.lt_irrefl _))]
      omega
    rw [e1] at hq
    exact hq _ _ _ _ _ _ _ _ _
  · refine R_gainF O r I G (by omega) (by omega) (fun i2 b2 r2 hb2 => ?_)
    (try simp only [eI_lit, eI_neg, eI_add, eI_sub, eI_mul, eF_ap, upd_eF])
    have hbd := rn_bd O (sands := 0) (m := g + 1) hx he he2 (by omega)
    have hr := rn_s σ x e 0 g
    rw [if_neg (by omega)] at hr
    have hr2 : rn σ x e 0 g + (σ 4 - fL σ (x + g + 1)) = rn σ x e 0 (g + 1) := by omega
    rw [hr2]
    refine q_le (by (first | exact B31_s (by omega) (by omega) | exact B31_of _ | (constructor <;> omega))) (by (first | exact B31_s (by omega) (by omega) | exact B31_of _ | (constructor <;> omega))) (fun h2 => ?_) (fun h2 => ?_)
    · refine R_takeF O r2 I HH D (by omega) (by omega) (fun i3 K3 L3 W3 S3 E3 P3 H3 r3 => ?_)
      refine hstep (g + 1) _ _ _ _ _ _ _ _ _ _ _ (by omega) ⟨by omega, rfl, by congr 1; omega, ?_, fun m hm => ?_⟩
      · have e2 : x + ((g + 1 : Nat) : Int) = x + g + 1 := by omega
        rw [e2]; exact r3
      · by_cases hmg : m = g
        · subst hmg; omega
        · exact hnb m (by omega)
    · have e1 : comesS σ x y e 0 = x + g + 1 - 1 := by
        unfold comesS
        rw [lf_eq (m := g) (by omega) hnb (fun _ => h2)]
        omega
      rw [e1] at hq
      exact hq _ _ _ _ _ _ _ _ _
theorem C_climb {σ} (O : LOk σ) {i K L W S E P H b : F32} {il gl hl fl d : F32} (I : LnI σ il) (G : LnG σ gl) (HH : LnH σ hl) (FF : LnF σ fl) (D : LnK σ d) {x y e : Int} (hx : B31 x) (hy : B31 y) (he : B31 e) {Q : Int32 → QR9} (hq : ∀ i' K' L' W' S' E' P' H' b', Q (eI (climbS σ x y e)) i' K' L' W' S' E' P' H' b') : w_LongTrain_climb il i hl fl K L W S E P H d gl b (eI x) (eI y) (eI e) Q := by
  unfold w_LongTrain_climb
  unfold climbS at hq
  refine C_isWay O I hx hy (fun a b c => ?_) (fun a => ?_)
  · (first | refine z1T ?_ | refine z1N ?_)
    refine C_isRunUp he (fun f g => ?_) (fun f => ?_)
    · (first | refine z1T ?_ | refine z1N ?_)
      rw [if_pos (by omega)] at hq
      exact C_climbed O I G HH FF D a b c f g hq
    · (first | refine z0T ?_ | refine z0N ?_); rw [if_neg (by omega)] at hq; exact hq _ _ _ _ _ _ _ _ _
  · (first | refine z0T ?_ | refine z0N ?_); rw [if_neg (by omega)] at hq; exact hq _ _ _ _ _ _ _ _ _
theorem C_leastRunUp {σ} (O : LOk σ) {i K L W S E P H b : F32} {il gl hl fl d : F32} (I : LnI σ il) (G : LnG σ gl) (HH : LnH σ hl) (FF : LnF σ fl) (D : LnK σ d) {x y : Int} (hx : 0 ≤ x) (hxy : x ≤ y) (hy : y < σ 0) {Q : Int32 → QR9} (hq : ∀ i' K' L' W' S' E' P' H' b', Q (eI (nd σ x (y - x).toNat)) i' K' L' W' S' E' P' H' b') : w_Free_leastRunUp il i hl fl K L W S E P H d gl b (eI x) (eI y) Q := by
  have hu := O.u
  unfold w_Free_leastRunUp
  refine R_start O I HH FF D hx (by omega) (fun i' K' L' W' S' E' P' H' r => ?_)
  (try simp only [eI_lit, eI_neg, eI_add, eI_sub, eI_mul, eF_ap, upd_eF])
  refine lg_Free_leastRunUp_17 (G := Nat) (fun g x4 x5 x6 i' K' L' W' S' E' P' H' b' => x + g ≤ y ∧ x4 = eI (rn σ x 0 0 g) ∧ x5 = eI (nd σ x g) ∧ x6 = eI (x + g + 1) ∧ RowR σ (FX σ (hb σ (x + g))) (x + g) (hb σ (x + g)) i' K' L' W' S' E' P' H') (fun g => (y - x).toNat - g) ?_ 0 ⟨by omega, by simp [rn, sm], rfl, by congr 1; omega, by simpa using r⟩
  rintro kr g x4 x5 x6 i' K' L' W' S' E' P' H' b' ⟨hg, rfl, rfl, rfl, r⟩ hstep
  unfold b_Free_leastRunUp_17
  (try simp only [eI_lit, eI_neg, eI_add, eI_sub, eI_mul, eF_ap, upd_eF])
  refine q_lt (by (first | exact B31_s (by omega) (by omega) | exact B31_of _ | (constructor <;> omega))) (by (first | exact B31_s (by omega) (by omega) | exact B31_of _ | (constructor <;> omega))) (fun h => ?_) (fun h => ?_)
  · have e : (y - x).toNat = g := by omega
    rw [e] at hq
    exact hq _ _ _ _ _ _ _ _ _
  · refine R_gainF O r I G (by omega) (by omega) (fun i2 b2 r2 hb2 => ?_)
    refine R_takeF O r2 I HH D (by omega) (by omega) (fun i3 K3 L3 W3 S3 E3 P3 H3 r3 => ?_)
    (try simp only [eI_lit, eI_neg, eI_add, eI_sub, eI_mul, eF_ap, upd_eF])
    have hbd := rn_bd O (e := 0) (sands := 0) (m := g + 1) hx (by omega) (by omega) (by omega)
    have hnd := nd_bd O (m := g) hx (by omega)
    have hr := rn_s σ x 0 0 g
    rw [if_neg (by omega)] at hr
    have hr2 : rn σ x 0 0 g + (σ 4 - fL σ (x + g + 1)) = rn σ x 0 0 (g + 1) := by omega
    rw [hr2, jmax_e (by (first | exact B31_s (by omega) (by omega) | exact B31_of _ | (constructor <;> omega))) (by (first | exact B31_s (by omega) (by omega) | exact B31_of _ | (constructor <;> omega)))]
    refine hstep (g + 1) _ _ _ _ _ _ _ _ _ _ _ _ (by omega) ⟨by omega, rfl, rfl, by congr 1; omega, ?_⟩
    have e2 : x + ((g + 1 : Nat) : Int) = x + g + 1 := by omega
    rw [e2]; exact r3
theorem C_needed {σ} (O : LOk σ) {i K L W S E P H b : F32} {il gl hl fl d : F32} (I : LnI σ il) (G : LnG σ gl) (HH : LnH σ hl) (FF : LnF σ fl) (D : LnK σ d) {x y : Int} (hx : B31 x) (hy : B31 y) {Q : Int32 → QR9} (hq : ∀ i' K' L' W' S' E' P' H' b', Q (eI (if 0 ≤ x ∧ x ≤ y ∧ y < σ 0 then nd σ x (y - x).toNat else -1)) i' K' L' W' S' E' P' H' b') : w_LongTrain_needed il i hl fl K L W S E P H d gl b (eI x) (eI y) Q := by
  unfold w_LongTrain_needed
  refine C_isWay O I hx hy (fun a b c => ?_) (fun a => ?_)
  · (first | refine z1T ?_ | refine z1N ?_)
    rw [if_pos (by omega)] at hq
    exact C_leastRunUp O I G HH FF D a b c hq
  · (first | refine z0T ?_ | refine z0N ?_); rw [if_neg (by omega)] at hq; exact hq _ _ _ _ _ _ _ _ _
theorem rn_sand (σ : Nat → Int) (a e : Int) (n : Nat) : ∀ m : Nat, rn σ a e n m = rn σ a e 0 m + σ 7 * (min n m : Nat)
  | 0 => by simp [rn, sm]
  | m + 1 => by
    rw [rn_s, rn_s, rn_sand σ a e n m]
    by_cases h : m + 1 ≤ n
    · have e1 : min n m = m := by omega
      have e2 : min n (m + 1) = m + 1 := by omega
      have e3 : σ 7 * ((m + 1 : Nat) : Int) = σ 7 * (m : Int) + σ 7 := by rw [Int.natCast_add, Int.mul_add]; simp
      rw [e1, e2, if_pos (by omega), if_neg (by omega), e3]; omega
    · have e1 : min n m = min n (m + 1) := by omega
      rw [e1, if_neg (by omega), if_neg (by omega)]; omega
theorem comes_end {σ : Nat → Int} {x y e s : Int} (hxy : x ≤ y) : comesS σ x y e s = y ↔ ∀ m, m < (y - x).toNat → ¬ rn σ x e s (m + 1) < 0 := by
  obtain ⟨h1, h2, h3⟩ := lf_sp (fun m => rn σ x e s (m + 1) < 0) (y - x).toNat
  unfold comesS
  constructor
  · intro h m hm
    exact h2 m (by omega)
  · intro h
    rw [lf_eq (m := (y - x).toNat) (Nat.le_refl _) h (fun h => absurd h (Nat.lt_irrefl _))]
    omega
theorem need_sp {s r : Int} (hs : 0 < s) (hr : r < 0) : 0 ≤ (s - 1 - r) / s ∧ (∀ n : Int, (s - 1 - r) / s ≤ n → 0 ≤ r + s * n) ∧ (∀ n : Int, n < (s - 1 - r) / s → r + s * n < 0) ∧ (s - 1 - r) / s ≤ s - 1 - r := by
  have h1 : (s - 1 - r) / s * s ≤ s - 1 - r := Int.ediv_mul_le _ (by omega)
  have h2 : s - 1 - r < ((s - 1 - r) / s + 1) * s := Int.lt_ediv_add_one_mul_self _ hs
  have h3 : ((s - 1 - r) / s + 1) * s = (s - 1 - r) / s * s + s := by rw [Int.add_mul]; omega
  refine ⟨Int.ediv_nonneg (by omega) (by omega), fun n hn => ?_, fun n hn => ?_, Int.ediv_le_self _ (by omega)⟩
  · have := Int.mul_le_mul_of_nonneg_left hn (Int.le_of_lt hs)
    have e : s * ((s - 1 - r) / s) = (s - 1 - r) / s * s := Int.mul_comm _ _
    omega
  · have h4 : n ≤ (s - 1 - r) / s - 1 := by omega
    have := Int.mul_le_mul_of_nonneg_left h4 (Int.le_of_lt hs)
    have e : s * ((s - 1 - r) / s - 1) = (s - 1 - r) / s * s - s := by rw [Int.mul_sub, Int.mul_comm]; omega
    omega
theorem C_leastSand {σ} (O : LOk σ) {i K L W S E P H b : F32} {il gl hl fl d : F32} (I : LnI σ il) (G : LnG σ gl) (HH : LnH σ hl) (FF : LnF σ fl) (D : LnK σ d) {x y e : Int} (hx : 0 ≤ x) (hxy : x ≤ y) (hy : y < σ 0) (he : 0 ≤ e) (he2 : e ≤ 99999) {Q : Int32 → QR9} (hq : ∀ i' K' L' W' S' E' P' H' b', Q (eI (sandS σ x y e)) i' K' L' W' S' E' P' H' b') : w_Free_leastSand il i hl fl K L W S E P H d gl b (eI x) (eI y) (eI e) Q := by
  have hu := O.u
  have hsd := O.sand
  unfold sandS at hq
  rw [if_pos (by omega)] at hq
  unfold w_Free_leastSand
  refine R_start O I HH FF D hx (by omega) (fun i' K' L' W' S' E' P' H' r => ?_)
  (try simp only [eI_lit, eI_neg, eI_add, eI_sub, eI_mul, eF_ap, upd_eF])
  refine lg_Free_leastSand_18 (G := Nat) (fun g x5 x6 x7 i' K' L' W' S' E' P' H' b' => x + g ≤ y ∧ x5 = eI (rn σ x e 0 g) ∧ x7 = eI (x + g + 1) ∧ RowR σ (FX σ (hb σ (x + g))) (x + g) (hb σ (x + g)) i' K' L' W' S' E' P' H' ∧ ∃ U : Nat, x6 = eI U ∧ U ≤ g ∧ (∀ m, m < g → ∀ n : Nat, U ≤ n → 0 ≤ rn σ x e n (m + 1)) ∧ (∀ n : Nat, n < U → ∃ m, m < g ∧ rn σ x e n (m + 1) < 0)) (fun g => (y - x).toNat - g) ?_ 0 ⟨by omega, by simp [rn, sm], by congr 1; omega, by simpa using r, 0, rfl, by omega, fun m hm => absurd hm (Nat.not_lt_zero _), fun n hn => absurd hn (Nat.not_lt_zero _)⟩
  rintro kr g x5 x6 x7 i' K' L' W' S' E' P' H' b' ⟨hg, rfl, rfl, r, U, rfl, hUg, hA, hB⟩ hstep
  unfold b_Free_leastSand_18
  (try simp only [eI_lit, eI_neg, eI_add, eI_sub, eI_mul, eF_ap, upd_eF])
  refine q_lt (by (first | exact B31_s (by omega) (by omega) | exact B31_of _ | (constructor <;> omega))) (by (first | exact B31_s (by omega) (by omega) | exact B31_of _ | (constructor <;> omega))) (fun h => ?_) (fun h => ?_)
  · have eg : (y - x).toNat = g := by omega
    have e1 := lf_eq (P := fun n : Nat => comesS σ x y e n = y) (n := (y - x).toNat + 1) (m := U) (by omega) (fun n hn hc => by
      obtain ⟨m, hm, hr⟩ := hB n hn
      exact (comes_end hxy).mp hc m (by omega) hr) (fun _ => (comes_end hxy).mpr (fun m hm => by have := hA m (by omega) U (Nat.le_refl _); omega))
    rw [e1, if_pos (by omega)] at hq
    exact hq _ _ _ _ _ _ _ _ _
  · refine R_gainF O r I G (by omega) (by omega) (fun i2 b2 r2 hb2 => ?_)
    (try simp only [eI_lit, eI_neg, eI_add, eI_sub, eI_mul, eF_ap, upd_eF])
    have hbd := rn_bd O (sands := 0) (m := g + 1) hx he he2 (by omega)
    have hr := rn_s σ x e 0 g
    rw [if_neg (by omega)] at hr
    have hr2 : rn σ x e 0 g + (σ 4 - fL σ (x + g + 1)) = rn σ x e 0 (g + 1) := by omega
    rw [hr2]
    have hx2 : x + ((g + 1 : Nat) : Int) = x + g + 1 := by omega
    have rs : ∀ n : Nat, rn σ x e n (g + 1) = rn σ x e 0 (g + 1) + σ 7 * ((min n (g + 1) : Nat) : Int) := fun n => rn_sand σ x e n (g + 1)
    refine q_le (by (first | exact B31_s (by omega) (by omega) | exact B31_of _ | (constructor <;> omega))) (by (first | exact B31_s (by omega) (by omega) | exact B31_of _ | (constructor <;> omega))) (fun h2 => ?_) (fun h2 => ?_)
    · refine R_takeF O r2 I HH D (by omega) (by omega) (fun i3 K3 L3 W3 S3 E3 P3 H3 r3 => ?_)
      refine hstep (g + 1) _ _ _ _ _ _ _ _ _ _ _ _ (by omega) ⟨by omega, rfl, by congr 1; omega, by rw [hx2]; exact r3, U, rfl, by omega, fun m hm n hn => ?_, fun n hn => ?_⟩
      · by_cases hmg : m = g
        · subst hmg
          have := Int.mul_nonneg (a := σ 7) (b := ((min n (m + 1) : Nat) : Int)) (by omega) (by omega)
          rw [rs n]; omega
        · exact hA m (by omega) n hn
      · obtain ⟨m, hm, hr⟩ := hB n hn
        exact ⟨m, by omega, hr⟩
    · have none : (∀ n : Nat, rn σ x e n (g + 1) < 0) → ∀ i' K' L' W' S' E' P' H' b', Q (eI (-1)) i' K' L' W' S' E' P' H' b' := fun hn => by
        have e1 := lf_eq (P := fun n : Nat => comesS σ x y e n = y) (n := (y - x).toNat + 1) (m := (y - x).toNat + 1) (Nat.le_refl _) (fun n _ hc => (comes_end hxy).mp hc g (by omega) (hn n)) (fun h => absurd h (Nat.lt_irrefl _))
        rw [e1, if_neg (by omega)] at hq
        exact hq
      rw [I.sand]
      (try simp only [eI_lit, eI_neg, eI_add, eI_sub, eI_mul, eF_ap, upd_eF])
      refine q_lt (by (first | exact B31_s (by omega) (by omega) | exact B31_of _ | (constructor <;> omega))) (by (first | exact B31_s (by omega) (by omega) | exact B31_of _ | (constructor <;> omega))) (fun h3 => ?_) (fun h3 => ?_)
      · obtain ⟨n1, n2, n3, n4⟩ := need_sp h3 h2
        refine ⟨fun hz => ?_, ?_⟩
        · have := (eI_eq (by (first | exact B31_s (by omega) (by omega) | exact B31_of _ | (constructor <;> omega))) (by (first | exact B31_s (by omega) (by omega) | exact B31_of _ | (constructor <;> omega)))).mp hz; omega
        · rw [eI_div (by omega) (by omega) h3 (by omega), jmax_e (by (first | exact B31_s (by omega) (by omega) | exact B31_of _ | (constructor <;> omega))) (by (first | exact B31_s (by omega) (by omega) | exact B31_of _ | (constructor <;> omega)))]
          refine q_le (by (first | exact B31_s (by omega) (by omega) | exact B31_of _ | (constructor <;> omega))) (by (first | exact B31_s (by omega) (by omega) | exact B31_of _ | (constructor <;> omega))) (fun h4 => ?_) (fun h4 => ?_)
          · refine R_takeF O r2 I HH D (by omega) (by omega) (fun i3 K3 L3 W3 S3 E3 P3 H3 r3 => ?_)
            refine hstep (g + 1) _ _ _ _ _ _ _ _ _ _ _ _ (by omega) ⟨by omega, rfl, by congr 1; omega, by rw [hx2]; exact r3, max U ((σ 7 - 1 - rn σ x e 0 (g + 1)) / σ 7).toNat, by congr 1; omega, by omega, fun m hm n hn => ?_, fun n hn => ?_⟩
            · by_cases hmg : m = g
              · subst hmg
                rw [rs n]
                exact n2 _ (by omega)
              · exact hA m (by omega) n (by omega)
            · by_cases hU : n < U
              · obtain ⟨m, hm, hr⟩ := hB n hU
                exact ⟨m, by omega, hr⟩
              · refine ⟨g, by omega, ?_⟩
                rw [rs n]
                exact n3 _ (by omega)
          · refine none (fun n => ?_) _ _ _ _ _ _ _ _ _
            rw [rs n]
            exact n3 _ (by omega)
      · refine none (fun n => ?_) _ _ _ _ _ _ _ _ _
        have e0 : σ 7 = 0 := by omega
        rw [rs n, e0]; omega
theorem C_sanded {σ} (O : LOk σ) {i K L W S E P H b : F32} {il gl hl fl d : F32} (I : LnI σ il) (G : LnG σ gl) (HH : LnH σ hl) (FF : LnF σ fl) (D : LnK σ d) {x y e : Int} (hx : B31 x) (hy : B31 y) (he : B31 e) {Q : Int32 → QR9} (hq : ∀ i' K' L' W' S' E' P' H' b', Q (eI (sandS σ x y e)) i' K' L' W' S' E' P' H' b') : w_LongTrain_sanded il i hl fl K L W S E P H d gl b (eI x) (eI y) (eI e) Q := by
  unfold w_LongTrain_sanded
  refine C_isWay O I hx hy (fun a b c => ?_) (fun a => ?_)
  · (first | refine z1T ?_ | refine z1N ?_)
    refine C_isRunUp he (fun f g => ?_) (fun f => ?_)
    · (first | refine z1T ?_ | refine z1N ?_)
      exact C_leastSand O I G HH FF D a b c f g hq
    · (first | refine z0T ?_ | refine z0N ?_); unfold sandS at hq; rw [if_neg (by omega)] at hq; exact hq _ _ _ _ _ _ _ _ _
  · (first | refine z0T ?_ | refine z0N ?_); unfold sandS at hq; rw [if_neg (by omega)] at hq; exact hq _ _ _ _ _ _ _ _ _
