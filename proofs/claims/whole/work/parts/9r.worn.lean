/-! longest: wear that is sure -/
def gsm (σ : Nat → Int) (u : Int) : Int := if u < 0 then 0 else sm (fun v => σ (11 + v)) (u + 1).toNat
theorem gsm_s {σ : Nat → Int} (u : Int) : gsm σ u = gsm σ (u - 1) + GR σ u := by
  unfold gsm GR
  by_cases h : u < 0
  · rw [if_pos h, if_pos h, if_pos (by omega)]; rfl
  · have e1 : (u + 1).toNat = u.toNat + 1 := by omega
    have e2 : (11 + u).toNat = 11 + u.toNat := by omega
    rw [if_neg h, if_neg h, e1, sm, e2]
    by_cases h1 : u - 1 < 0
    · have e3 : u.toNat = 0 := by omega
      rw [if_pos h1, e3]; rfl
    · have e3 : (u - 1 + 1).toNat = u.toNat := by omega
      rw [if_neg h1, e3]
def cDd (σ : Nat → Int) (k : Nat → Int) (j : Nat) (s h : Int) : Int := WT σ (k j) * (gsm σ (h - 1 - sm (fun q => LG σ (k q)) j) - gsm σ (s - 1 - sm (fun q => LG σ (k q)) j) + (h - s) * σ 6)
theorem cDd_s {σ : Nat → Int} {k : Nat → Int} {j : Nat} {s h : Int} : cDd σ k j s (h + 1) = cDd σ k j s h + dg σ k (h + 1) j := by
  unfold cDd dg fo
  generalize sm (fun q => LG σ (k q)) j = b
  have e0 : h + 1 - 1 - b = h - b := by omega
  have e1 := gsm_s (σ := σ) (h - b)
  have e2 : h - b - 1 = h - 1 - b := by omega
  rw [e2] at e1
  have e3 : (h + 1 - s) * σ 6 = (h - s) * σ 6 + σ 6 := by
    have : h + 1 - s = (h - s) + 1 := by omega
    rw [this, Int.add_mul, Int.one_mul]
  rw [e0, e1, e3, ← Int.mul_add]
  congr 1
  omega
theorem cDd_0 {σ : Nat → Int} {k : Nat → Int} {j : Nat} {s : Int} : cDd σ k j s s = 0 := by
  unfold cDd
  rw [Int.sub_self, Int.sub_self, Int.zero_mul]
  simp
theorem sm_ad {f g : Nat → Int} : ∀ n : Nat, sm (fun j => f j + g j) n = sm f n + sm g n
  | 0 => by simp [sm]
  | n + 1 => by rw [sm, sm, sm, sm_ad n]; omega
theorem sm_zr {f : Nat → Int} : ∀ {n : Nat}, (∀ j, j < n → f j = 0) → sm f n = 0
  | 0, _ => rfl
  | n + 1, h => by rw [sm, sm_zr (fun j hj => h j (by omega)), h n (by omega)]; rfl
theorem dg_k {σ : Nat → Int} {k k' : Nat → Int} {n j : Nat} {h : Int} (hk : ∀ q, q < n → k q = k' q) (hj : j < n) : dg σ k h j = dg σ k' h j := by
  unfold dg fo
  rw [hk j hj, sm_congr (f := fun q => LG σ (k q)) (g := fun q => LG σ (k' q)) (fun q hq => by rw [hk q (by omega)])]
theorem cDd_k {σ : Nat → Int} {k k' : Nat → Int} {n j : Nat} {s h : Int} (hk : ∀ q, q < n → k q = k' q) (hj : j < n) : cDd σ k j s h = cDd σ k' j s h := by
  unfold cDd
  rw [hk j hj, sm_congr (f := fun q => LG σ (k q)) (g := fun q => LG σ (k' q)) (fun q hq => by rw [hk q (by omega)])]
theorem br_k {σ : Nat → Int} {k k' : Nat → Int} {n j : Nat} {h : Int} (hk : ∀ q, q < n → k q = k' q) (hj : j ≤ n) : br σ k n h j = br σ k' n h j := by
  unfold br
  rw [sm_congr (fun q hq => dg_k hk hq), sm_congr (n := j) (fun q hq => dg_k (n := n) hk (by omega))]
theorem hb_t {σ : Nat → Int} (O : LOk σ) (g : Nat) : (0 ≤ adN σ (hb σ g) ((g : Int) + 1) ∧ hb σ ((g + 1 : Nat) : Int) = hb σ g + 1 ∧ (hb σ g : Int) < σ 1 ∧ adN σ (hb σ g) ((g : Int) + 1) = AD σ (hb σ g) ∧ AT σ (hb σ g) = (g : Int) + 1) ∨ (¬ 0 ≤ adN σ (hb σ g) ((g : Int) + 1) ∧ (hb σ ((g + 1 : Nat) : Int) = hb σ g ∨ (hb σ ((g + 1 : Nat) : Int) = hb σ g + 1 ∧ ¬ 0 ≤ AD σ (hb σ g)))) := by
  have hc : ((g + 1 : Nat) : Int) = (g : Int) + 1 := by omega
  have hnx := hb_next O (g := (g : Int)) (by omega)
  rw [hc]
  by_cases ha : 0 ≤ adN σ (hb σ g) ((g : Int) + 1)
  · obtain ⟨c1, c2, c3, c4⟩ := adN_hb O (by omega) ha
    exact Or.inl ⟨ha, c4, c1, c3, c2⟩
  · refine Or.inr ⟨ha, ?_⟩
    rw [← hnx]
    unfold nhN
    unfold adN at ha
    by_cases hcc : ((hb σ g : Nat) : Int) < σ 1 ∧ AT σ (hb σ g) = (g : Int) + 1
    · rw [if_pos hcc] at ha ⊢
      exact Or.inr ⟨rfl, ha⟩
    · rw [if_neg hcc]; exact Or.inl rfl
def JJ (σ : Nat → Int) (a : Nat) (X : RW) (g0 : Int) (g : Nat) (m : Nat) (Y : RW) : Prop :=
  (hb σ g = a + m) ∧
  (Y.n = (apX σ a X m).n) ∧
  (∀ j, j < Y.n → Y.k j = (apX σ a X m).k j) ∧
  (∀ j, j < Y.n → Y.s j = (apX σ a X m).s j) ∧
  (∀ i, i < Y.n → (apX σ a X m).w i + (sm (fun j => cDd σ (apX σ a X m).k j (snc σ a X g0 m j) g) Y.n - sm (fun j => cDd σ (apX σ a X m).k j (snc σ a X g0 m j) g) i) ≤ Y.w i) ∧
  (∀ i, i < Y.n → 0 ≤ Y.w i ∧ Y.w i ≤ 70000 * (g : Int)) ∧
  (KOk σ Y.k Y.n) ∧
  (∀ i, i < Y.n → 1 ≤ Y.s i ∧ Y.s i ≤ 999) ∧
  (Y.n ≤ 8 + hb σ g)
theorem JJ.m {σ : Nat → Int} {a : Nat} {X : RW} {g0 : Int} {g : Nat} {m : Nat} {Y : RW} (h : JJ σ a X g0 g m Y) : hb σ g = a + m := h.1
theorem JJ.n {σ : Nat → Int} {a : Nat} {X : RW} {g0 : Int} {g : Nat} {m : Nat} {Y : RW} (h : JJ σ a X g0 g m Y) : Y.n = (apX σ a X m).n := h.2.1
theorem JJ.k {σ : Nat → Int} {a : Nat} {X : RW} {g0 : Int} {g : Nat} {m : Nat} {Y : RW} (h : JJ σ a X g0 g m Y) : ∀ j, j < Y.n → Y.k j = (apX σ a X m).k j := h.2.2.1
theorem JJ.s {σ : Nat → Int} {a : Nat} {X : RW} {g0 : Int} {g : Nat} {m : Nat} {Y : RW} (h : JJ σ a X g0 g m Y) : ∀ j, j < Y.n → Y.s j = (apX σ a X m).s j := h.2.2.2.1
theorem JJ.w {σ : Nat → Int} {a : Nat} {X : RW} {g0 : Int} {g : Nat} {m : Nat} {Y : RW} (h : JJ σ a X g0 g m Y) : ∀ i, i < Y.n → (apX σ a X m).w i + (sm (fun j => cDd σ (apX σ a X m).k j (snc σ a X g0 m j) g) Y.n - sm (fun j => cDd σ (apX σ a X m).k j (snc σ a X g0 m j) g) i) ≤ Y.w i := h.2.2.2.2.1
theorem JJ.wb {σ : Nat → Int} {a : Nat} {X : RW} {g0 : Int} {g : Nat} {m : Nat} {Y : RW} (h : JJ σ a X g0 g m Y) : ∀ i, i < Y.n → 0 ≤ Y.w i ∧ Y.w i ≤ 70000 * (g : Int) := h.2.2.2.2.2.1
theorem JJ.ok {σ : Nat → Int} {a : Nat} {X : RW} {g0 : Int} {g : Nat} {m : Nat} {Y : RW} (h : JJ σ a X g0 g m Y) : KOk σ Y.k Y.n := h.2.2.2.2.2.2.1
theorem JJ.sb {σ : Nat → Int} {a : Nat} {X : RW} {g0 : Int} {g : Nat} {m : Nat} {Y : RW} (h : JJ σ a X g0 g m Y) : ∀ i, i < Y.n → 1 ≤ Y.s i ∧ Y.s i ≤ 999 := h.2.2.2.2.2.2.2.1
theorem JJ.n8 {σ : Nat → Int} {a : Nat} {X : RW} {g0 : Int} {g : Nat} {m : Nat} {Y : RW} (h : JJ σ a X g0 g m Y) : Y.n ≤ 8 + hb σ g := h.2.2.2.2.2.2.2.2
theorem JJ.st {σ : Nat → Int} (O : LOk σ) {a : Nat} {X : RW} {g0 : Int} {g m : Nat} {Y : RW} (J : JJ σ a X g0 g m Y) (hg : (g : Int) + 1 < σ 0) : ∃ m', m ≤ m' ∧ JJ σ a X g0 (g + 1) m' (stp σ g Y) := by
  have hU := O.u
  have hhc := O.hc
  have hbl := hb_le O (g : Int)
  have hn8 := J.n8
  have hn18 : Y.n ≤ 18 := by omega
  have wst : ∀ i, i < Y.n → (apX σ a X m).w i + (sm (fun j => cDd σ (apX σ a X m).k j (snc σ a X g0 m j) ((g + 1 : Nat) : Int)) Y.n - sm (fun j => cDd σ (apX σ a X m).k j (snc σ a X g0 m j) ((g + 1 : Nat) : Int)) i) ≤ (wrX σ Y ((g : Int) + 1)).w i ∧ 0 ≤ (wrX σ Y ((g : Int) + 1)).w i ∧ (wrX σ Y ((g : Int) + 1)).w i ≤ 70000 * ((g + 1 : Nat) : Int) := fun i hi => by
    have ew : (wrX σ Y ((g : Int) + 1)).w i = Y.w i + ps (br σ Y.k Y.n ((g : Int) + 1) i) := by
      show (if i < Y.n then Y.w i + ps (br σ Y.k Y.n ((g : Int) + 1) i) else Y.w i) = _
      rw [if_pos hi]
    have hbb := br_bd O J.ok hn18 (h := (g : Int) + 1) (by omega) (j := i) (by omega)
    have hps := ps_bd hbb.1 hbb.2
    have hw := J.w i hi
    have hwb := J.wb i hi
    have eD : ∀ n', n' ≤ Y.n → sm (fun j => cDd σ (apX σ a X m).k j (snc σ a X g0 m j) ((g + 1 : Nat) : Int)) n' = sm (fun j => cDd σ (apX σ a X m).k j (snc σ a X g0 m j) (g : Int)) n' + sm (dg σ Y.k ((g : Int) + 1)) n' := fun n' hn' => by
      have e0 : ∀ j, j < n' → cDd σ (apX σ a X m).k j (snc σ a X g0 m j) ((g + 1 : Nat) : Int) = cDd σ (apX σ a X m).k j (snc σ a X g0 m j) (g : Int) + dg σ Y.k ((g : Int) + 1) j := fun j hj => by
        have ec : ((g + 1 : Nat) : Int) = (g : Int) + 1 := by omega
        rw [ec, cDd_s, dg_k (n := Y.n) (k := Y.k) J.k (by omega)]
      rw [sm_congr e0, sm_ad]
    rw [eD Y.n (Nat.le_refl _), eD i (by omega), ew, hps]
    have eb : br σ Y.k Y.n ((g : Int) + 1) i = sm (dg σ Y.k ((g : Int) + 1)) Y.n - sm (dg σ Y.k ((g : Int) + 1)) i := rfl
    rw [eb] at hbb ⊢
    omega
  rcases hb_t O g with ⟨ha, h1, h2, h3, h4⟩ | ⟨ha, h1⟩
  · have e1 : hb σ (g : Int) = a + m := J.m
    have ead : AD σ ((a + m : Nat) : Int) = adN σ (hb σ g) ((g : Int) + 1) := by rw [h3, e1]
    have had : 0 ≤ AD σ ((a + m : Nat) : Int) := by rw [ead]; exact ha
    have eap : apX σ a X (m + 1) = (apX σ a X m).ins (apX σ a X m).n (AD σ ((a + m : Nat) : Int)) (ST σ (AD σ ((a + m : Nat) : Int))) := by rw [apX, if_pos had]
    have esn : snc σ a X g0 (m + 1) = updI (snc σ a X g0 m) (apX σ a X m).n (AT σ ((a + m : Nat) : Int)) := by rw [snc, if_pos had]
    have est : stp σ g Y = (wrX σ Y ((g : Int) + 1)).ins Y.n (AD σ ((a + m : Nat) : Int)) (ST σ (AD σ ((a + m : Nat) : Int))) := by unfold stp; rw [if_pos ha, ead]
    have hadb := O.ad (hb σ g) h2
    have hn := J.n
    refine ⟨m + 1, by omega, ?_⟩
    rw [est]
    have kk : ∀ j, j < Y.n + 1 → insF Y.k Y.n (AD σ ((a + m : Nat) : Int)) j = (apX σ a X (m + 1)).k j := fun j hj => by
      rw [eap]
      show _ = insF (apX σ a X m).k (apX σ a X m).n (AD σ ((a + m : Nat) : Int)) j
      rw [← hn]
      by_cases e : j = Y.n
      · subst e; rw [insF_eq, insF_eq]
      · rw [insF_lt (by omega), insF_lt (by omega)]; exact J.k j (by omega)
    have kkd : ∀ j, j < Y.n → (apX σ a X (m + 1)).k j = (apX σ a X m).k j := fun j hj => (apX_p m (by omega)).1
    have eD : ∀ n', n' ≤ Y.n → sm (fun j => cDd σ (apX σ a X (m + 1)).k j (snc σ a X g0 (m + 1) j) ((g + 1 : Nat) : Int)) n' = sm (fun j => cDd σ (apX σ a X m).k j (snc σ a X g0 m j) ((g + 1 : Nat) : Int)) n' := fun n' hn' => by
      refine sm_congr (fun j hj => ?_)
      rw [cDd_k (n := Y.n) kkd (by omega), (apX_p m (by omega)).2.2.2 g0]
    have eL : cDd σ (apX σ a X (m + 1)).k Y.n (snc σ a X g0 (m + 1) Y.n) ((g + 1 : Nat) : Int) = 0 := by
      have e2 : snc σ a X g0 (m + 1) Y.n = ((g + 1 : Nat) : Int) := by
        rw [esn, hn, updI_s, ← e1, h4]; omega
      rw [e2, cDd_0]
    have e1x : (X : RW) = X := rfl
    refine ⟨by rw [h1, e1]; omega, ?_, kk, fun j hj => ?_, fun i hi => ?_, fun i hi => ?_, ?_, fun i hi => ?_, ?_⟩
    · rw [eap]; show Y.n + 1 = (apX σ a X m).n + 1; omega
    · have hj' : j < Y.n + 1 := hj
      rw [eap]
      show insF Y.s Y.n _ j = insF (apX σ a X m).s (apX σ a X m).n _ j
      rw [← hn]
      by_cases e : j = Y.n
      · subst e; rw [insF_eq, insF_eq]
      · rw [insF_lt (by omega), insF_lt (by omega)]; exact J.s j (by omega)
    · have hi' : i < Y.n + 1 := hi
      show _ + (sm _ (Y.n + 1) - _) ≤ insF (wrX σ Y ((g : Int) + 1)).w Y.n 0 i
      rw [sm, eL, eD Y.n (Nat.le_refl _), eD i (by omega)]
      by_cases e : i = Y.n
      · subst e
        have e3 : (apX σ a X (m + 1)).w Y.n = 0 := by
          rw [eap]
          show insF (apX σ a X m).w (apX σ a X m).n 0 Y.n = 0
          rw [hn, insF_eq]
        rw [insF_eq, e3]; omega
      · have := (wst i (by omega)).1
        have e3 := (apX_p (σ := σ) (a := a) (X := X) (j := i) m (by omega)).2.2.1
        rw [insF_lt (by omega), e3]; omega
    · have hi' : i < Y.n + 1 := hi
      show 0 ≤ insF (wrX σ Y ((g : Int) + 1)).w Y.n 0 i ∧ insF (wrX σ Y ((g : Int) + 1)).w Y.n 0 i ≤ _
      by_cases e : i = Y.n
      · subst e; rw [insF_eq]; omega
      · rw [insF_lt (by omega)]; exact (wst i (by omega)).2
    · exact KOk.ins (X := wrX σ Y ((g : Int) + 1)) J.ok (Nat.le_refl _) had (by rw [← e1]; exact hadb.2)
    · have hi' : i < Y.n + 1 := hi
      show 1 ≤ insF Y.s Y.n _ i ∧ insF Y.s Y.n _ i ≤ 999
      by_cases e : i = Y.n
      · subst e
        rw [insF_eq]
        exact (O.kd _ had (by rw [← e1]; exact hadb.2)).2.2
      · rw [insF_lt (by omega)]; exact J.sb i (by omega)
    · show Y.n + 1 ≤ 8 + hb σ ((g + 1 : Nat) : Int)
      rw [h1]; omega
  · have est : stp σ g Y = wrX σ Y ((g : Int) + 1) := by unfold stp; rw [if_neg ha]
    have e1 : hb σ (g : Int) = a + m := J.m
    have main : ∀ m', hb σ ((g + 1 : Nat) : Int) = a + m' → apX σ a X m' = apX σ a X m → snc σ a X g0 m' = snc σ a X g0 m → JJ σ a X g0 (g + 1) m' (stp σ g Y) := fun m' e2 e3 e4 => by
      rw [est]
      refine ⟨e2, by rw [e3]; exact J.n, by rw [e3]; exact J.k, by rw [e3]; exact J.s, fun i hi => ?_, fun i hi => (wst i hi).2, J.ok, J.sb, ?_⟩
      · rw [e3, e4]; exact (wst i hi).1
      · show Y.n ≤ _
        have hle : hb σ g ≤ hb σ ((g + 1 : Nat) : Int) := hb_mono O (by omega)
        omega
    rcases h1 with h1 | ⟨h1, h2⟩
    · exact ⟨m, Nat.le_refl _, main m (by rw [h1]; exact e1) rfl rfl⟩
    · rw [e1] at h2
      exact ⟨m + 1, by omega, main (m + 1) (by omega) (by rw [apX, if_neg h2]) (by rw [snc, if_neg h2])⟩
theorem JJ.ride {σ : Nat → Int} (O : LOk σ) {a : Nat} {X : RW} {g0 : Int} : ∀ (t g m : Nat) (Y : RW), JJ σ a X g0 g m Y → ((g + t : Nat) : Int) < σ 0 ∨ t = 0 → ∃ m', m ≤ m' ∧ JJ σ a X g0 (g + t) m' (rX σ t g Y)
  | 0, g, m, Y, J, _ => ⟨m, Nat.le_refl _, by rw [rX, Nat.add_zero]; exact J⟩
  | t + 1, g, m, Y, J, h => by
    obtain ⟨m1, hm1, J1⟩ := J.st O (by omega)
    obtain ⟨m2, hm2, J2⟩ := JJ.ride O t (g + 1) m1 _ J1 (by omega)
    have e : g + (t + 1) = g + 1 + t := by omega
    rw [e, rX]
    exact ⟨m2, by omega, J2⟩
theorem JJ.worn {σ : Nat → Int} (O : LOk σ) {a : Nat} {X : RW} {g0 : Int} {g m : Nat} {Y : RW} (J : JJ σ a X g0 g m Y) (hg : g ≤ 400) {i : Nat} (hi : i < (apX σ a X m).n) (hw : σ 8 * (apX σ a X m).s i < (apX σ a X m).w i + (sm (fun j => cDd σ (apX σ a X m).k j (snc σ a X g0 m j) g) (apX σ a X m).n - sm (fun j => cDd σ (apX σ a X m).k j (snc σ a X g0 m j) g) i)) : ptL σ Y ((g : Int) + 1) < Y.n := by
  have hn := J.n
  have hwr := O.wear
  have h1 := J.w i (by omega)
  have h2 := J.wb i (by omega)
  have h3 := J.sb i (by omega)
  have h4 := J.s i (by omega)
  have h5 := mul_bd (a := σ 8) (b := Y.s i) (A := 99) (B := 999) (by omega) (by omega) (by omega) (by omega) (by omega)
  unfold ptL
  refine lf_ex.mpr ⟨i, by omega, Or.inr ?_⟩
  refine (eI_lt (by constructor <;> omega) (by constructor <;> omega)).mpr ?_
  rw [← h4] at hw
  rw [hn] at h1
  omega
theorem JJ.over {σ : Nat → Int} (O : LOk σ) {a : Nat} {X : RW} {g0 : Int} {g m : Nat} {Y : RW} (J : JJ σ a X g0 g m Y) (hg : g < 400) {i : Nat} (hi : i < (apX σ a X m).n) (hw : (apX σ a X m).s i < br σ (apX σ a X m).k (apX σ a X m).n ((g : Int) + 1) i) : ptL σ Y ((g : Int) + 1) < Y.n := by
  have hn := J.n
  have hhc := O.hc
  have hbl := hb_le O (g : Int)
  have hn8 := J.n8
  have h3 := J.sb i (by omega)
  have h4 := J.s i (by omega)
  have hbb := br_bd O J.ok (by omega) (h := (g : Int) + 1) (by omega) (j := i) (by omega)
  have e1 := br_k (σ := σ) (h := (g : Int) + 1) J.k (j := i) (by omega)
  unfold ptL
  refine lf_ex.mpr ⟨i, by omega, Or.inl ?_⟩
  refine (eI_lt (by constructor <;> omega) (by constructor <;> omega)).mpr ?_
  rw [← hn, ← h4] at hw
  rw [e1]; exact hw
