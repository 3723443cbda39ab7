/-! helped -/
theorem M_helps {i b : F32} {n m : Nat} {B : Nat → Int} {v : Int} (hb : ∀ j, j < n → b j = eI (B j)) (hm : m < n) (hn : n ≤ 20) {Q : F32 → F32 → Prop} (hq : ∀ b', (∀ j, j < n → b' j = eI (B j - if j ≤ m then v else 0)) → Q (upd i 28 (i 28 - eI v)) b') : w_LongTrainModel_helps i b (eI m) (eI v) Q := by
  unfold w_LongTrainModel_helps
  refine lg_LongTrainModel_helps_2 (G := Nat) (fun g x b' => g ≤ m + 1 ∧ x = eI g ∧ ∀ j, j < n → b' j = eI (B j - if j < g then v else 0)) (fun g => m + 1 - g) ?_ 0 ⟨by omega, rfl, fun j hj => by rw [if_neg (by omega), hb j hj]; congr 1; omega⟩
  rintro kr g x b' ⟨hg, rfl, hb'⟩ hs
  unfold b_LongTrainModel_helps_2
  refine q_lt (by (first | exact B31_s (by omega) (by omega) | exact B31_of _ | (constructor <;> omega))) (by (first | exact B31_s (by omega) (by omega) | exact B31_of _ | (constructor <;> omega))) (fun h => ?_) (fun h => ?_)
  · refine hq b' (fun j hj => ?_)
    rw [hb' j hj]
    by_cases hjm : j ≤ m
    · rw [if_pos hjm, if_pos (by omega)]
    · rw [if_neg hjm, if_neg (by omega)]
  · refine And.intro (eI_in (by omega) (by omega) (by omega)) ?_; refine And.intro (eI_in (by omega) (by omega) (by omega)) ?_; (try simp (disch := omega) only [eI_cl, Int.toNat_natCast])
    rw [hb' g (by omega), if_neg (Nat.lt_irrefl _)]
    (try simp only [eI_lit, eI_neg, eI_add, eI_sub, eI_mul, eF_ap, upd_eF])
    refine hs (g + 1) _ _ (by omega) ⟨by omega, by congr 1, fun j hj => ?_⟩
    by_cases hjg : j = g
    · subst hjg; rw [upd_s, if_pos (by omega)]; congr 1; omega
    · rw [upd_n hjg, hb' j hj]
      by_cases hlt : j < g
      · rw [if_pos hlt, if_pos (by omega)]
      · rw [if_neg hlt, if_neg (by omega)]
def hB (σ : Nat → Int) (h : Int) (i : Nat) (v : Int) (j : Nat) : Int := fB σ h j - if j ≤ i then v else 0
def hrn (σ : Nat → Int) (a e v : Int) (m : Nat) : Int := e + sm (fun j => σ 4 - (fL σ (a + j + 1) - v)) m
theorem hrn_s (σ a e v m) : hrn σ a e v (m + 1) = hrn σ a e v m + (σ 4 - (fL σ (a + m + 1) - v)) := by simp only [hrn, sm]; omega
theorem hrn_bd {σ} (O : LOk σ) {a e v : Int} (ha : 0 ≤ a) (he : 0 ≤ e) (he2 : e ≤ 99999) (hv : 0 ≤ v) (hv2 : v ≤ 999) {m : Nat} (hm : a + m < 400) : -100000000 ≤ hrn σ a e v m ∧ hrn σ a e v m ≤ 100000000 := by
  have hp := O.pull
  have := sm_bd (f := fun j => σ 4 - (fL σ (a + j + 1) - v)) (lo := -80000) (hi := 80000) (n := m) (fun j hj => by
    have h1 := fL_bd O (h := a + j + 1) (by omega)
    omega)
  unfold hrn
  omega
/-- whether it comes from a over m moves, helped at wagon i -/
def hOk (σ : Nat → Int) (a e v : Int) (i : Nat) (m : Nat) : Prop := ∀ g, g < m → 0 ≤ hrn σ a e v (g + 1) ∧ ∀ j, j < fN σ (a + g + 1) → hB σ (a + g + 1) i v j ≤ ST σ (fK σ (a + g + 1) j)
theorem wN_fN {σ} (O : LOk σ) {a h : Int} (hah : a < h) : wN σ a ≤ fN σ h := by
  have := hb_mono O (a := a) (b := h - 1) (by omega)
  unfold wN fN
  have e : hb σ (h - 1) = hb σ a + (hb σ (h - 1) - hb σ a) := by omega
  rw [e]
  exact frn_mono σ
theorem hB_bd {σ} (O : LOk σ) {h v : Int} (hh : h ≤ 400) (hv : 0 ≤ v) (hv2 : v ≤ 999) {i j : Nat} (hj : j ≤ fN σ h) : -80000 ≤ hB σ h i v j ∧ hB σ h i v j ≤ 80000 := by
  have := fB_bd O hh hj
  unfold hB
  split <;> omega
theorem st_b {σ} (O : LOk σ) {k : Nat → Int} {n : Nat} (hk : KOk σ k n) {j : Nat} (hj : j < n) : 1 ≤ ST σ (k j) ∧ ST σ (k j) ≤ 999 := by
  have h1 := hk j hj
  exact (O.kd _ h1.1 h1.2).2.2
theorem M_isHelped {σ} (O : LOk σ) {i w f b : F32} {x y e v : Int} {q : Nat} (hx : 0 ≤ x) (hxy : x ≤ y) (hy : y < σ 0) (he : 0 ≤ e) (he2 : e ≤ 99999) (hv : 1 ≤ v) (hv2 : v ≤ 999) (hq' : q < wN σ x) {Q : Int32 → F32 → F32 → F32 → F32 → Prop} (h1 : hOk σ x e v q (y - x).toNat → ∀ i' w' f' b', Kp i i' → Q 1 i' w' f' b') (h0 : ¬ hOk σ x e v q (y - x).toNat → ∀ i' w' f' b', Kp i i' → Q 0 i' w' f' b') : w_LongTrainModel_isHelped i (eF σ) w f b (eI x) (eI y) (eI e) (eI q) (eI v) Q := by
  have hu := O.u
  have hkc := O.kc
  unfold w_LongTrainModel_isHelped
  (try simp only [eI_lit, eI_neg, eI_add, eI_sub, eI_mul, eF_ap, upd_eF])
  refine lg_LongTrainModel_isHelped_8 (G := Nat) (fun g x6 x7 i' w' f' b' => x + g ≤ y ∧ x6 = eI (hrn σ x e v g) ∧ x7 = eI (x + g + 1) ∧ Kp i i' ∧ hOk σ x e v q g) (fun g => (y - x).toNat - g) ?_ 0 ⟨by omega, by simp [hrn, sm], by congr 1; omega, Kp.rf, fun m hm => absurd hm (Nat.not_lt_zero _)⟩
  rintro kr g x6 x7 i' w' f' b' ⟨hg, rfl, rfl, hk, hok⟩ hstep
  unfold b_LongTrainModel_isHelped_8
  (try simp only [eI_lit, eI_neg, eI_add, eI_sub, eI_mul, eF_ap, upd_eF])
  refine q_lt (by (first | exact B31_s (by omega) (by omega) | exact B31_of _ | (constructor <;> omega))) (by (first | exact B31_s (by omega) (by omega) | exact B31_of _ | (constructor <;> omega))) (fun h => ?_) (fun h => ?_)
  · have eg : (y - x).toNat = g := by omega
    rw [eg] at h1
    exact h1 hok _ _ _ _ hk
  · refine M_freeAt O (by omega) (by omega) (fun i2 w2 f2 b2 k2 hn hl hw hf hb => ?_)
    have hle := wN_fN O (a := x) (h := x + g + 1) (by omega)
    have h18 := fN_18 O (x + g + 1)
    have hkk := fK_ok O (x + g + 1)
    refine M_helps (n := fN σ (x + g + 1)) hb (by omega) (by omega) (fun b3 hb3 => ?_)
    rw [upd_s, hl]
    have k3 : Kp i (upd i2 28 (eI (fL σ (x + g + 1)) - eI v)) := (hk.tr k2).u (by omega)
    (try simp only [eI_lit, eI_neg, eI_add, eI_sub, eI_mul, eF_ap, upd_eF])
    have hbd := hrn_bd O (v := v) (m := g + 1) hx he he2 (by omega) hv2 (by omega)
    have hr := hrn_s σ x e v g
    rw [← hr]
    refine q_le (by (first | exact B31_s (by omega) (by omega) | exact B31_of _ | (constructor <;> omega))) (by (first | exact B31_s (by omega) (by omega) | exact B31_of _ | (constructor <;> omega))) (fun h2 => ?_) (fun h2 => ?_)
    · refine lg_LongTrainModel_isHelped_54 (G := Nat) (fun m x8 => m ≤ fN σ (x + g + 1) ∧ x8 = eI m ∧ ∀ j, j < m → hB σ (x + g + 1) q v j ≤ ST σ (fK σ (x + g + 1) j)) (fun m => fN σ (x + g + 1) - m) ?_ 0 ⟨by omega, rfl, fun m hm => absurd hm (Nat.not_lt_zero _)⟩
      rintro kr2 m x8 ⟨hm, rfl, hnb⟩ hs2
      unfold b_LongTrainModel_isHelped_54
      rw [upd_n (by omega), hn]
      refine q_le (by (first | exact B31_s (by omega) (by omega) | exact B31_of _ | (constructor <;> omega))) (by (first | exact B31_s (by omega) (by omega) | exact B31_of _ | (constructor <;> omega))) (fun h3 => ?_) (fun h3 => ?_)
      · have em : m = fN σ (x + g + 1) := by omega
        subst em
        refine hstep (g + 1) _ _ _ _ _ _ (by omega) ⟨by omega, rfl, by congr 1; omega, ?_, fun g2 hg2 => ?_⟩
        · have := k3
          simp only [eI_sub] at this
          exact this
        · by_cases hgg : g2 = g
          · subst hgg; exact ⟨h2, hnb⟩
          · exact hok g2 (by omega)
      · have hk1 := hkk m (by omega)
        have hs1 := st_b O hkk (j := m) (by omega)
        have hb1 := hB_bd O (h := x + g + 1) (v := v) (i := q) (j := m) (by omega) (by omega) hv2 (by omega)
        refine And.intro (eI_in (by omega) (by omega) (by omega)) ?_; refine And.intro (eI_in (by omega) (by omega) (by omega)) ?_; (try simp (disch := omega) only [eI_cl, Int.toNat_natCast])
        rw [hw m (by omega), hb3 m (by omega)]
        refine M_strengthOf hk1.1 (by omega) ?_
        refine q_le (by show B31 (hB σ (x + g + 1) q v m); (first | exact B31_s (by omega) (by omega) | exact B31_of _ | (constructor <;> omega))) (by (first | exact B31_s (by omega) (by omega) | exact B31_of _ | (constructor <;> omega))) (fun h4 => ?_) (fun h4 => ?_)
        · (try simp only [eI_lit, eI_neg, eI_add, eI_sub, eI_mul, eF_ap, upd_eF])
          refine hs2 (m + 1) _ (by omega) ⟨by omega, by congr 1, fun j hj => ?_⟩
          by_cases hjm : j = m
          · subst hjm; exact h4
          · exact hnb j (by omega)
        · refine h0 (fun hall => ?_) _ _ _ _ (by have := k3; simp only [eI_sub] at this; exact this)
          have := (hall g (by omega)).2 m (by omega)
          have h4' : ST σ (fK σ (x + g + 1) m) < hB σ (x + g + 1) q v m := h4
          omega
    · refine h0 (fun hall => ?_) _ _ _ _ (by have := k3; simp only [eI_sub] at this; exact this)
      have := (hall g (by omega)).1
      omega
noncomputable def hbits (P : Nat → Prop) : Nat → Int32
  | 0 => 0
  | i + 1 => @ite Int32 (P i) (Classical.propDecidable _) (hbits P i ||| ((1 : Int32) <<< (eI i &&& 31))) (hbits P i)
noncomputable def helpS (σ : Nat → Int) (x y e v : Int) : Int32 := if (0 ≤ x ∧ x ≤ y ∧ y < σ 0) ∧ (0 ≤ e ∧ e ≤ 99999) ∧ 1 ≤ v ∧ v ≤ 999 then hbits (fun i => hOk σ x e v i (y - x).toNat) (wN σ x) else -1
theorem or_z (a : Int32) : a ||| 0 = a := by simp
theorem M_helped {σ} (O : LOk σ) {i w f b : F32} {x y e v : Int} (hx : B31 x) (hy : B31 y) (he : B31 e) (hv : B31 v) {Q : Int32 → F32 → F32 → F32 → F32 → Prop} (hq : ∀ i' w' f' b', KP i i' → Q (helpS σ x y e v) i' w' f' b') : w_LongTrainModel_helped i (eF σ) w f b (eI x) (eI y) (eI e) (eI v) Q := by
  have hu := O.u
  unfold w_LongTrainModel_helped
  unfold helpS at hq
  have no : ¬ ((0 ≤ x ∧ x ≤ y ∧ y < σ 0) ∧ (0 ≤ e ∧ e ≤ 99999) ∧ 1 ≤ v ∧ v ≤ 999) → Q (-1) (upd i 0 0) w f b := fun hn => by
    rw [if_neg hn] at hq; exact hq _ _ _ _ KP.u0
  refine M_areUnits O hx hy (fun a1 a2 a3 => ?_) (fun a => by (first | refine z0T ?_ | refine z0N ?_); exact no (by omega))
  (first | refine z1T ?_ | refine z1N ?_)
  refine M_isRun he (fun b1 b2 => ?_) (fun a => by (first | refine z0T ?_ | refine z0N ?_); exact no (by omega))
  (first | refine z1T ?_ | refine z1N ?_)
  refine M_isIn (b := 1) (c := 999) hv (by (first | exact B31_s (by omega) (by omega) | exact B31_of _ | (constructor <;> omega))) (by (first | exact B31_s (by omega) (by omega) | exact B31_of _ | (constructor <;> omega))) (fun c1 c2 => ?_) (fun a => by (first | refine z0T ?_ | refine z0N ?_); exact no (by omega))
  (first | refine z1T ?_ | refine z1N ?_)
  rw [if_pos ⟨⟨a1, a2, a3⟩, ⟨b1, b2⟩, c1, c2⟩] at hq
  refine M_free O (by omega) (by omega) (fun w' hw => ?_)
  have h18 := wN_18 O x
  rw [upd_s]
  refine lg_LongTrainModel_helped_52 (G := Nat) (fun g x6 x7 i' w' f' b' => g ≤ wN σ x ∧ x6 = hbits (fun i => hOk σ x e v i (y - x).toNat) g ∧ x7 = eI g ∧ Kp (upd i 0 0) i') (fun g => wN σ x - g) ?_ 0 ⟨by omega, rfl, rfl, Kp.rf.u (by omega)⟩
  rintro kr g x6 x7 i' w' f' b' ⟨hg, rfl, rfl, hk⟩ hstep
  unfold b_LongTrainModel_helped_52
  refine q_le (by show B31 ((wN σ x : Nat) : Int); (first | exact B31_s (by omega) (by omega) | exact B31_of _ | (constructor <;> omega))) (by (first | exact B31_s (by omega) (by omega) | exact B31_of _ | (constructor <;> omega))) (fun h => ?_) (fun h => ?_)
  · have h' : (wN σ x : Int) ≤ g := h
    have eg : g = wN σ x := by omega
    subst eg
    exact hq _ _ _ _ hk.P
  · have h' : (g : Int) < wN σ x := h
    refine M_isHelped O a1 a2 a3 b1 b2 c1 c2 (by omega) (fun hok i2 w2 f2 b2 k2 => ?_) (fun hok i2 w2 f2 b2 k2 => ?_)
    · (first | refine z1T ?_ | refine z1N ?_)
      refine hstep (g + 1) _ _ _ _ _ _ (by omega) ⟨by omega, ?_, by (try simp only [eI_lit, eI_neg, eI_add, eI_sub, eI_mul, eF_ap, upd_eF]); congr 1, hk.tr k2⟩
      rw [hbits, if_pos hok]
    · (first | refine z0T ?_ | refine z0N ?_)
      refine hstep (g + 1) _ _ _ _ _ _ (by omega) ⟨by omega, ?_, by (try simp only [eI_lit, eI_neg, eI_add, eI_sub, eI_mul, eF_ap, upd_eF]); congr 1, hk.tr k2⟩
      rw [hbits, if_neg hok, or_z]
/-! the class -/
def HX (σ : Nat → Int) (m i : Nat) (v : Int) : RW := ⟨frn σ m, frk σ m, fun j => ST σ (frk σ m j), fun _ => 0, updI (fun _ => 0) i (0 + v), updI (fun _ => 0) i (0 + 1)⟩
theorem updI_0 {i j : Nat} {v : Int} (h : i < j) : updI (fun _ => (0 : Int)) i v j = 0 := by rw [updI_n _ (by omega)]
theorem insF_up {i n : Nat} {v : Int} (h : i < n) {j : Nat} (hj : j ≤ n) : insF (updI (fun _ => (0 : Int)) i v) n 0 j = updI (fun _ => (0 : Int)) i v j := by
  by_cases e : j = n
  · subst e; rw [insF_eq, updI_0 h]
  · rw [insF_lt (by omega)]
theorem tk_help {σ} (O : LOk σ) {g : Int} (h0 : 0 ≤ g) {i : Nat} {v : Int} (hi : i < frn σ (hz σ g)) : RWeq (tkX σ (HX σ (hz σ g) i v) (hz σ g) g) (HX σ (hb σ g) i v) := by
  obtain ⟨hn, hj⟩ := tk_free O h0
  unfold tkX at hn hj ⊢
  by_cases ha : 0 ≤ adN σ (hz σ g) g
  · rw [if_pos ha] at hn hj ⊢
    have hn' : frn σ (hz σ g) + 1 = frn σ (hb σ g) := hn
    refine ⟨hn, fun j hjn => ?_⟩
    have hjn' : j < frn σ (hz σ g) + 1 := hjn
    have h2 := hj j hjn
    exact ⟨h2.1, h2.2.1, h2.2.2.1, insF_up hi (by omega), insF_up hi (by omega)⟩
  · rw [if_neg ha] at hn hj ⊢
    have hn' : frn σ (hz σ g) = frn σ (hb σ g) := hn
    refine ⟨hn, fun j hjn => ?_⟩
    have h2 := hj j hjn
    exact ⟨h2.1, h2.2.1, h2.2.2.1, rfl, rfl⟩
theorem sm_up {d : Nat → Int} {i : Nat} {v : Int} : ∀ n : Nat, sm (fun j => d j - updI (fun _ => 0) i v j) n = sm d n - (if i < n then v else 0)
  | 0 => by simp [sm]
  | n + 1 => by
    rw [sm, sm, sm_up n]
    by_cases e : n = i
    · subst e; rw [updI_s, if_neg (by omega), if_pos (by omega)]; omega
    · rw [updI_n _ e]
      by_cases h : i < n
      · rw [if_pos h, if_pos (by omega)]; omega
      · rw [if_neg h, if_neg (by omega)]; omega
theorem C_comesU {σ} (O : LOk σ) {i K L W S E P H b : F32} {il gl hl d : F32} (I : LnI σ il) (G : LnG σ gl) (HH : LnH σ hl) (D : LnK σ d) {x y e v : Int} {q : Nat} (hx : 0 ≤ x) (hxy : x ≤ y) (hy : y < σ 0) (he : 0 ≤ e) (he2 : e ≤ 99999) (hv : 1 ≤ v) (hv2 : v ≤ 999) (hq' : q < wN σ x) (r : RowR σ (HX σ (hb σ x) q v) x (hb σ x) i K L W S E P H) {Q : Int32 → QR9} (h1 : hOk σ x e v q (y - x).toNat → ∀ i' L' W' P' b' S' K' E' H', Q 1 i' L' W' P' b' S' K' E' H') (h0 : ¬ hOk σ x e v q (y - x).toNat → ∀ i' L' W' P' b' S' K' E' H', Q 0 i' L' W' P' b' S' K' E' H') : w_Free_comesUnbroken il i L gl W P b S hl K E H d (eI x) (eI y) (eI e) Q := by
  have hu := O.u
  unfold w_Free_comesUnbroken
  (try simp only [eI_lit, eI_neg, eI_add, eI_sub, eI_mul, eF_ap, upd_eF])
  refine lg_Free_comesUnbroken_9 (G := Nat) (fun g x5 x6 i' L' W' P' b' S' K' E' H' => x + g ≤ y ∧ x5 = eI (hrn σ x e v g) ∧ x6 = eI (x + g + 1) ∧ RowR σ (HX σ (hb σ (x + g)) q v) (x + g) (hb σ (x + g)) i' K' L' W' S' E' P' H' ∧ hOk σ x e v q g) (fun g => (y - x).toNat - g) ?_ 0 ⟨by omega, by simp [hrn, sm], by congr 1; omega, by simpa using r, fun m hm => absurd hm (Nat.not_lt_zero _)⟩
  rintro kr g x5 x6 i' L' W' P' b' S' K' E' H' ⟨hg, rfl, rfl, r, hok⟩ hstep
  unfold b_Free_comesUnbroken_9
  (try simp only [eI_lit, eI_neg, eI_add, eI_sub, eI_mul, eF_ap, upd_eF])
  refine q_lt (by (first | exact B31_s (by omega) (by omega) | exact B31_of _ | (constructor <;> omega))) (by (first | exact B31_s (by omega) (by omega) | exact B31_of _ | (constructor <;> omega))) (fun h => ?_) (fun h => ?_)
  · have eg : (y - x).toNat = g := by omega
    rw [eg] at h1
    exact h1 hok _ _ _ _ _ _ _ _ _
  · unfold w_Free_gainAt
    have r1 := r.head (x + g + 1)
    rw [← hz_next (by omega)] at r1
    have ef := fr_hz O (h := x + g + 1) (by omega)
    have h18 := fN_18 O (x + g + 1)
    have hle := wN_fN O (a := x) (h := x + g + 1) (by omega)
    have hN : frn σ (hz σ (x + g + 1)) = fN σ (x + g + 1) := ef.1
    have hK : frk σ (hz σ (x + g + 1)) = fK σ (x + g + 1) := ef.2
    have hkk : KOk σ (frk σ (hz σ (x + g + 1))) (frn σ (hz σ (x + g + 1))) := KOk.fr O (hz_le O _)
    refine R_measure O r1 I G hkk (by show frn σ (hz σ (x + g + 1)) ≤ 20; omega) (by omega) (Or.inl (by omega)) (fun b2 hb => ?_)
    have eB : ∀ j, j < fN σ (x + g + 1) → brp σ (HX σ (hz σ (x + g + 1)) q v) (x + g + 1) j = hB σ (x + g + 1) q v j := fun j hj => by
      show sm (fun j => dg σ (frk σ (hz σ (x + g + 1))) (x + g + 1) j - updI (fun _ => 0) q (0 + v) j) (frn σ (hz σ (x + g + 1))) - sm (fun j => dg σ (frk σ (hz σ (x + g + 1))) (x + g + 1) j - updI (fun _ => 0) q (0 + v) j) j = _
      rw [sm_up, sm_up, hN, hK, if_pos (by omega)]
      unfold hB fB br
      by_cases hqj : q < j
      · rw [if_pos hqj, if_neg (by omega)]; omega
      · rw [if_neg hqj, if_pos (by omega)]; omega
    have eL : ldp σ (HX σ (hz σ (x + g + 1)) q v) (x + g + 1) = fL σ (x + g + 1) - v := by
      show sm (fun j => dg σ (frk σ (hz σ (x + g + 1))) (x + g + 1) j - updI (fun _ => 0) q (0 + v) j) (frn σ (hz σ (x + g + 1))) + _ = _
      rw [sm_up, hN, hK, if_pos (by omega)]
      unfold fL ld
      omega
    rw [eL, I.pull]
    (try simp only [eI_lit, eI_neg, eI_add, eI_sub, eI_mul, eF_ap, upd_eF])
    have hbd := hrn_bd O (v := v) (m := g + 1) hx he he2 (by omega) hv2 (by omega)
    rw [← hrn_s σ x e v g]
    refine q_lt (by (first | exact B31_s (by omega) (by omega) | exact B31_of _ | (constructor <;> omega))) (by (first | exact B31_s (by omega) (by omega) | exact B31_of _ | (constructor <;> omega))) (fun h2 => ?_) (fun h2 => ?_)
    · refine h0 (fun hall => ?_) _ _ _ _ _ _ _ _ _
      have := (hall g (by omega)).1
      omega
    · have ST' : ∀ j, j < fN σ (x + g + 1) → (HX σ (hz σ (x + g + 1)) q v).s j = ST σ (fK σ (x + g + 1) j) := fun j _ => by
        show ST σ (frk σ (hz σ (x + g + 1)) j) = _
        rw [hK]
      refine R_isOverborne r1 (by show frn σ (hz σ (x + g + 1)) ≤ 20; omega) hb (fun hex => ?_) (fun hno => ?_)
      · (first | refine z1T ?_ | refine z1N ?_)
        obtain ⟨j, hj, hlt⟩ := hex
        have hj' : j < fN σ (x + g + 1) := by rw [← hN]; exact hj
        refine h0 (fun hall => ?_) _ _ _ _ _ _ _ _ _
        have h5 := (hall g (by omega)).2 j hj'
        have hs1 := st_b O (fK_ok O (x + g + 1)) hj'
        have hb1 := hB_bd O (h := x + g + 1) (v := v) (i := q) (j := j) (by omega) (by omega) hv2 (by omega)
        rw [ST' j hj', eB j hj', eI_lt (by (first | exact B31_s (by omega) (by omega) | exact B31_of _ | (constructor <;> omega))) (by (first | exact B31_s (by omega) (by omega) | exact B31_of _ | (constructor <;> omega)))] at hlt
        omega
      · (first | refine z0T ?_ | refine z0N ?_)
        have hh : B31 (x + g + 1) := by (first | exact B31_s (by omega) (by omega) | exact B31_of _ | (constructor <;> omega))
        refine R_takeOn O r1 I HH D hh (hz_le O _) (by show frn σ (hz σ (x + g + 1)) < 20; omega) (fun i3 K3 L3 W3 S3 E3 P3 H3 r3 => ?_)
        rw [nh_step O (by omega)] at r3
        have r4 := r3.congr (tk_help O (by omega) (by omega))
        refine hstep (g + 1) _ _ _ _ _ _ _ _ _ _ _ (by omega) ⟨by omega, rfl, by congr 1; omega, ?_, fun g2 hg2 => ?_⟩
        · have e2 : x + ((g + 1 : Nat) : Int) = x + g + 1 := by omega
          rw [e2]; exact r4
        · by_cases hgg : g2 = g
          · subst hgg
            refine ⟨h2, fun j hj => ?_⟩
            have h5 := hno j (by show j < frn σ (hz σ (x + g2 + 1)); omega)
            have hs1 := st_b O (fK_ok O (x + g2 + 1)) hj
            have hb1 := hB_bd O (h := x + g2 + 1) (v := v) (i := q) (j := j) (by omega) (by omega) hv2 (by omega)
            rw [ST' j hj, eB j hj, eI_lt (by (first | exact B31_s (by omega) (by omega) | exact B31_of _ | (constructor <;> omega))) (by (first | exact B31_s (by omega) (by omega) | exact B31_of _ | (constructor <;> omega)))] at h5
            omega
          · exact hok g2 (by omega)
theorem C_helped {σ} (O : LOk σ) {i K L W S E P H b : F32} {il gl hl fl d : F32} (I : LnI σ il) (G : LnG σ gl) (HH : LnH σ hl) (FF : LnF σ fl) (D : LnK σ d) {x y e v : Int} (hx : B31 x) (hy : B31 y) (he : B31 e) (hv : B31 v) {Q : Int32 → QR9} (hq : ∀ i' K' L' W' S' E' P' H' b', Q (helpS σ x y e v) i' K' L' W' S' E' P' H' b') : w_LongTrain_helped il i hl fl K L W S E P H d gl b (eI x) (eI y) (eI e) (eI v) Q := by
  have hu := O.u
  unfold w_LongTrain_helped
  unfold helpS at hq
  have no : ¬ ((0 ≤ x ∧ x ≤ y ∧ y < σ 0) ∧ (0 ≤ e ∧ e ≤ 99999) ∧ 1 ≤ v ∧ v ≤ 999) → Q (-1) i K L W S E P H b := fun hn => by
    rw [if_neg hn] at hq; exact hq _ _ _ _ _ _ _ _ _
  refine C_isWay O I hx hy (fun a1 a2 a3 => ?_) (fun a => by (first | refine z0T ?_ | refine z0N ?_); exact no (by omega))
  (first | refine z1T ?_ | refine z1N ?_)
  refine C_isRunUp he (fun b1 b2 => ?_) (fun a => by (first | refine z0T ?_ | refine z0N ?_); exact no (by omega))
  (first | refine z1T ?_ | refine z1N ?_)
  refine q_lt (b := 1) hv (by (first | exact B31_s (by omega) (by omega) | exact B31_of _ | (constructor <;> omega))) (fun h => no (by omega)) (fun c1 => ?_)
  refine q_le (b := 999) hv (by (first | exact B31_s (by omega) (by omega) | exact B31_of _ | (constructor <;> omega))) (fun c2 => ?_) (fun h => no (by omega))
  rw [if_pos ⟨⟨a1, a2, a3⟩, ⟨b1, b2⟩, c1, c2⟩] at hq
  unfold w_Free_helpfulWagons
  refine R_start O I HH FF D a1 (by omega) (fun i' K' L' W' S' E' P' H' r => ?_)
  have h18 := wN_18 O x
  have e8 : i' 8 = eI (wN σ x) := r.sz
  rw [e8]
  refine lg_Free_helpfulWagons_21 (G := Nat) (fun g x7 x8 i' K' L' W' S' E' P' H' b' => g ≤ wN σ x ∧ x7 = hbits (fun i => hOk σ x e v i (y - x).toNat) g ∧ x8 = eI g) (fun g => wN σ x - g) ?_ 0 ⟨by omega, rfl, rfl⟩
  rintro kr g x7 x8 i' K' L' W' S' E' P' H' b' ⟨hg, rfl, rfl⟩ hstep
  unfold b_Free_helpfulWagons_21
  refine q_le (by (first | exact B31_s (by omega) (by omega) | exact B31_of _ | (constructor <;> omega))) (by (first | exact B31_s (by omega) (by omega) | exact B31_of _ | (constructor <;> omega))) (fun h => ?_) (fun h => ?_)
  · have eg : g = wN σ x := by omega
    subst eg
    exact hq _ _ _ _ _ _ _ _ _
  · refine R_start O I HH FF D a1 (by omega) (fun i2 K2 L2 W2 S2 E2 P2 H2 r2 => ?_)
    refine R_help r2 (by show wN σ x ≤ 20; omega) (by show g < wN σ x; omega) (fun P3 H3 r3 => ?_)
    refine C_comesU O I G HH D a1 a2 a3 b1 b2 c1 c2 (by omega) r3 (fun hok i4 L4 W4 P4 b4 S4 K4 E4 H4 => ?_) (fun hok i4 L4 W4 P4 b4 S4 K4 E4 H4 => ?_)
    · (first | refine z1T ?_ | refine z1N ?_)
      refine hstep (g + 1) _ _ _ _ _ _ _ _ _ _ _ (by omega) ⟨by omega, ?_, by (try simp only [eI_lit, eI_neg, eI_add, eI_sub, eI_mul, eF_ap, upd_eF]); congr 1⟩
      rw [hbits, if_pos hok]
    · (first | refine z0T ?_ | refine z0N ?_)
      refine hstep (g + 1) _ _ _ _ _ _ _ _ _ _ _ (by omega) ⟨by omega, ?_, by (try simp only [eI_lit, eI_neg, eI_add, eI_sub, eI_mul, eF_ap, upd_eF]); congr 1⟩
      rw [hbits, if_neg hok]
