/-! bets -/
noncomputable def rdX (σ : Nat → Int) : Nat → RW
  | 0 => FX σ 0
  | g + 1 => if 0 ≤ adN σ (hb σ g) ((g : Int) + 1) then (wrX σ (rdX σ g) ((g : Int) + 1)).ins (rdX σ g).n (adN σ (hb σ g) ((g : Int) + 1)) (ST σ (adN σ (hb σ g) ((g : Int) + 1))) else wrX σ (rdX σ g) ((g : Int) + 1)
theorem rd_step {σ : Nat → Int} (g : Nat) : (0 ≤ adN σ (hb σ g) ((g : Int) + 1) ∧ rdX σ (g + 1) = (wrX σ (rdX σ g) ((g : Int) + 1)).ins (rdX σ g).n (adN σ (hb σ g) ((g : Int) + 1)) (ST σ (adN σ (hb σ g) ((g : Int) + 1)))) ∨ (¬ 0 ≤ adN σ (hb σ g) ((g : Int) + 1) ∧ rdX σ (g + 1) = wrX σ (rdX σ g) ((g : Int) + 1)) := by
  by_cases h : 0 ≤ adN σ (hb σ g) ((g : Int) + 1)
  · exact Or.inl ⟨h, by rw [rdX, if_pos h]⟩
  · exact Or.inr ⟨h, by rw [rdX, if_neg h]⟩
abbrev RD (σ : Nat → Int) (u : Nat) : Prop :=
  ((rdX σ u).n ≤ 8 + hb σ u) ∧
  (KOk σ (rdX σ u).k (rdX σ u).n) ∧
  (∀ j, j < (rdX σ u).n → (rdX σ u).p j = 0) ∧
  (∀ j, j < (rdX σ u).n → (rdX σ u).s j = ST σ ((rdX σ u).k j)) ∧
  (∀ j, j < (rdX σ u).n → 0 ≤ (rdX σ u).w j ∧ (rdX σ u).w j ≤ 70000 * (u : Int))
theorem RD.n {σ : Nat → Int} {u : Nat} (h : RD σ u) : (rdX σ u).n ≤ 8 + hb σ u := h.1
theorem RD.k {σ : Nat → Int} {u : Nat} (h : RD σ u) : KOk σ (rdX σ u).k (rdX σ u).n := h.2.1
theorem RD.p {σ : Nat → Int} {u : Nat} (h : RD σ u) : ∀ j, j < (rdX σ u).n → (rdX σ u).p j = 0 := h.2.2.1
theorem RD.s {σ : Nat → Int} {u : Nat} (h : RD σ u) : ∀ j, j < (rdX σ u).n → (rdX σ u).s j = ST σ ((rdX σ u).k j) := h.2.2.2.1
theorem RD.w {σ : Nat → Int} {u : Nat} (h : RD σ u) : ∀ j, j < (rdX σ u).n → 0 ≤ (rdX σ u).w j ∧ (rdX σ u).w j ≤ 70000 * (u : Int) := h.2.2.2.2
theorem br_bd {σ : Nat → Int} (O : LOk σ) {k : Nat → Int} {n : Nat} (hk : KOk σ k n) (hn : n ≤ 18) {h : Int} (hh : h ≤ 400) {j : Nat} (hj : j ≤ n) : -70000 ≤ br σ k n h j ∧ br σ k n h j ≤ 70000 := by
  have h1 := smdg_bd O hk hh (i := n) (Nat.le_refl _)
  have h2 := smdg_bd O hk hh (i := j) hj
  unfold br
  omega
theorem ps_bd {x : Int} (h1 : -70000 ≤ x) (h2 : x ≤ 70000) : ps x = max x 0 := by
  unfold ps
  by_cases h : 0 < x
  · have h3 : (0 : Int32) < eI x := (eI_lt (a := 0) (by (first | exact B31_s (by omega) (by omega) | exact B31_of _ | (constructor <;> omega))) (by (first | exact B31_s (by omega) (by omega) | exact B31_of _ | (constructor <;> omega)))).mpr h
    rw [if_pos h3]; omega
  · have h3 : ¬ (0 : Int32) < eI x := fun h3 => h ((eI_lt (a := 0) (by (first | exact B31_s (by omega) (by omega) | exact B31_of _ | (constructor <;> omega))) (by (first | exact B31_s (by omega) (by omega) | exact B31_of _ | (constructor <;> omega)))).mp h3)
    rw [if_neg h3]; omega
theorem RD.n18 {σ : Nat → Int} (O : LOk σ) {u : Nat} (R : RD σ u) : (rdX σ u).n ≤ 18 := by
  have h1 := R.n
  have h2 := hb_le O (u : Int)
  have h3 := O.hc
  omega
theorem rd_ok {σ : Nat → Int} (O : LOk σ) : ∀ u : Nat, u < 400 → RD σ u
  | 0, _ => by
    have hfc := O.fc
    have hhc := O.hc
    refine ⟨by show (σ 10).toNat ≤ _; omega, KOk.fr O (by omega), fun _ _ => rfl, fun _ _ => rfl, fun j hj => ⟨by show (0 : Int) ≤ 0; omega, by show (0 : Int) ≤ _; omega⟩⟩
  | u + 1, hu => by
    have R := rd_ok O u (by omega)
    have n18 := R.n18 O
    have hhc := O.hc
    have hkc := O.kc
    have hadb := adN_b O (hb σ u) ((u : Int) + 1)
    have e5 : ((u + 1 : Nat) : Int) = (u : Int) + 1 := by omega
    have hmono := hb_mono O (a := (u : Int)) (b := (u : Int) + 1) (by omega)
    have hw : ∀ j, j < (rdX σ u).n → 0 ≤ (wrX σ (rdX σ u) ((u : Int) + 1)).w j ∧ (wrX σ (rdX σ u) ((u : Int) + 1)).w j ≤ 70000 * ((u + 1 : Nat) : Int) := fun j hj => by
      have h1 := R.w j hj
      have h2 := br_bd O R.k n18 (h := (u : Int) + 1) (by omega) (j := j) (by omega)
      have h3 := ps_bd h2.1 h2.2
      show 0 ≤ (if j < (rdX σ u).n then _ else _) ∧ (if j < (rdX σ u).n then _ else _) ≤ _
      rw [if_pos hj, h3]
      omega
    rcases rd_step (σ := σ) u with ⟨ha, he⟩ | ⟨ha, he⟩
    · obtain ⟨c1, c2, c3, c4⟩ := adN_hb O (by omega) ha
      rw [RD, he]
      refine ⟨?_, KOk.ins (X := wrX σ (rdX σ u) ((u : Int) + 1)) R.k (Nat.le_refl _) ha (by omega), ins_p (X := wrX σ (rdX σ u) ((u : Int) + 1)) (Nat.le_refl _) R.p, fun j hj => ?_, fun j hj => ?_⟩
      · show (rdX σ u).n + 1 ≤ _
        have := R.n
        rw [e5, c4]; omega
      · have hj' : j < (rdX σ u).n + 1 := hj
        show insF (rdX σ u).s (rdX σ u).n _ j = ST σ (insF (rdX σ u).k (rdX σ u).n _ j)
        by_cases e : j = (rdX σ u).n
        · subst e; rw [insF_eq, insF_eq]
        · rw [insF_lt (by omega), insF_lt (by omega)]; exact R.s j (by omega)
      · have hj' : j < (rdX σ u).n + 1 := hj
        show 0 ≤ insF (wrX σ (rdX σ u) ((u : Int) + 1)).w (rdX σ u).n 0 j ∧ insF (wrX σ (rdX σ u) ((u : Int) + 1)).w (rdX σ u).n 0 j ≤ _
        by_cases e : j = (rdX σ u).n
        · subst e; rw [insF_eq]; omega
        · rw [insF_lt (by omega)]; exact hw j (by omega)
    · rw [RD, he]
      refine ⟨?_, R.k, R.p, R.s, hw⟩
      show (rdX σ u).n ≤ _
      have := R.n
      rw [e5]; omega
/-- a wagon keeps its place and its kind -/
theorem rd_st {σ : Nat → Int} (u : Nat) : (rdX σ u).n ≤ (rdX σ (u + 1)).n ∧ (rdX σ (u + 1)).n ≤ (rdX σ u).n + 1 ∧ ∀ j, j < (rdX σ u).n → (rdX σ (u + 1)).k j = (rdX σ u).k j := by
  rcases rd_step (σ := σ) u with ⟨_, he⟩ | ⟨_, he⟩
  · rw [he]
    refine ⟨by show _ ≤ (rdX σ u).n + 1; omega, by show (rdX σ u).n + 1 ≤ _; omega, fun j hj => ?_⟩
    show insF (rdX σ u).k (rdX σ u).n _ j = _
    rw [insF_lt hj]
  · rw [he]
    exact ⟨by show (rdX σ u).n ≤ (rdX σ u).n; omega, by show (rdX σ u).n ≤ _; omega, fun _ _ => rfl⟩
theorem rd_st2 {σ : Nat → Int} {u : Nat} : ∀ d : Nat, (rdX σ u).n ≤ (rdX σ (u + d)).n ∧ ∀ j, j < (rdX σ u).n → (rdX σ (u + d)).k j = (rdX σ u).k j
  | 0 => ⟨Nat.le_refl _, fun _ _ => rfl⟩
  | d + 1 => by
    have h1 := rd_st2 (σ := σ) (u := u) d
    have h2 := rd_st (σ := σ) (u + d)
    refine ⟨by show _ ≤ (rdX σ (u + d + 1)).n; omega, fun j hj => ?_⟩
    show (rdX σ (u + d + 1)).k j = _
    rw [h2.2.2 j (by omega)]; exact h1.2 j hj
def dq (s : Int32) : Nat → Int32
  | 0 => s
  | j + 1 => dsd (dq s j)
noncomputable def Dd (σ : Nat → Int) (s : Int32) (u : Nat) (j : Nat) : Int := (drw (dq s j) (eI (ST σ ((rdX σ u).k j)))).toInt
theorem bt0_dq {σ : Nat → Int} {s : Int32} : ∀ g : Nat, (bt0 σ s g).1 = dq s g ∧ ∀ j, j < g → (bt0 σ s g).2 j = Dd σ s 0 j
  | 0 => ⟨rfl, fun j hj => absurd hj (Nat.not_lt_zero _)⟩
  | g + 1 => by
    obtain ⟨h1, h2⟩ := bt0_dq (σ := σ) (s := s) g
    refine ⟨by show dsd _ = dsd _; rw [h1], fun j hj => ?_⟩
    show updI (bt0 σ s g).2 g _ j = _
    by_cases e : j = g
    · subst e; rw [updI_s, h1]; rfl
    · rw [updI_n _ e]; exact h2 j (by omega)
theorem lf_congr {P P' : Nat → Prop} : ∀ {n : Nat}, (∀ j, j < n → (P j ↔ P' j)) → lf P n = lf P' n := fun {n} h => by
  obtain ⟨a, b, c⟩ := lf_sp P' n
  refine lf_eq a (fun j hj => ?_) (fun hl => ?_)
  · rw [h j (by omega)]; exact b j hj
  · rw [h _ hl]; exact c hl
theorem lf_ex {P : Nat → Prop} {n : Nat} : lf P n < n ↔ ∃ j, j < n ∧ P j := by
  obtain ⟨a, b, c⟩ := lf_sp P n
  refine ⟨fun h => ⟨lf P n, h, c h⟩, fun ⟨j, hj, hp⟩ => ?_⟩
  rcases Nat.lt_or_ge (lf P n) n with h | h
  · exact h
  · exact absurd hp (b j (by omega))
def badH (σ : Nat → Int) (s : Int32) (u : Nat) : Prop := ∃ j, j < (rdX σ u).n ∧ Bad σ (Dd σ s u) (rdX σ u).w (br σ (rdX σ u).k (rdX σ u).n ((u : Int) + 1)) j
theorem bts_eq {σ : Nat → Int} (O : LOk σ) (s : Int32) : ∀ (f u : Nat) (X : RW), u + f < 400 → X.n = (rdX σ u).n → (∀ j, j < X.n → X.k j = (rdX σ u).k j ∧ X.w j = (rdX σ u).w j ∧ X.s j = Dd σ s u j) → bts σ f u X (dq s X.n) = if lf (fun q => badH σ s (u + q)) f < f then ((u + lf (fun q => badH σ s (u + q)) f : Nat) : Int) + 1 else -1
  | 0, u, X, _, _, _ => by rw [if_neg (Nat.not_lt_zero _)]; rfl
  | f + 1, u, X, hf, hn, hX => by
    have R := rd_ok O u (by omega)
    have hbr : ∀ j, j ≤ X.n → br σ X.k X.n ((u : Int) + 1) j = br σ (rdX σ u).k (rdX σ u).n ((u : Int) + 1) j := fun j hj => by
      have hd : ∀ q, q < X.n → dg σ X.k ((u : Int) + 1) q = dg σ (rdX σ u).k ((u : Int) + 1) q := fun q hq => by
        unfold dg fo
        rw [(hX q hq).1, sm_congr (fun z hz => by rw [(hX z (by omega)).1])]
      unfold br
      rw [← hn, sm_congr hd, sm_congr (n := j) (fun q hq => hd q (by omega))]
    have hpt : ptL σ X ((u : Int) + 1) < X.n ↔ badH σ s u := by
      unfold ptL badH
      rw [lf_ex, ← hn]
      refine ⟨fun ⟨j, hj, hb⟩ => ⟨j, hj, ?_⟩, fun ⟨j, hj, hb⟩ => ⟨j, hj, ?_⟩⟩
      · unfold Bad at hb ⊢
        have h3 := hX j hj
        have h4 := hbr j (by omega)
        rw [h3.2.2, h3.2.1, h4] at hb
        rw [hn]; exact hb
      · unfold Bad at hb ⊢
        have h3 := hX j hj
        have h4 := hbr j (by omega)
        rw [h3.2.2, h3.2.1, h4]
        rw [hn] at hb; exact hb
    have hst := rd_st (σ := σ) u
    have ez : u + 0 = u := rfl
    obtain ⟨q1, q2, q3⟩ := lf_sp (fun q => badH σ s (u + 1 + q)) f
    have eshift : ∀ q, u + (q + 1) = u + 1 + q := fun q => by omega
    rw [bts]
    by_cases hbd : badH σ s u
    · rw [if_pos (hpt.mpr hbd)]
      have e : lf (fun q => badH σ s (u + q)) (f + 1) = 0 := lf_eq (by omega) (fun j hj => absurd hj (Nat.not_lt_zero _)) (fun _ => hbd)
      rw [e, if_pos (by omega)]; simp
    · rw [if_neg (fun h => hbd (hpt.mp h))]
      have e : lf (fun q => badH σ s (u + q)) (f + 1) = lf (fun q => badH σ s (u + 1 + q)) f + 1 := by
        refine lf_eq (by omega) (fun j hj => ?_) (fun hl => ?_)
        · cases j with
          | zero => exact hbd
          | succ j => show ¬ badH σ s (u + (j + 1)); rw [eshift j]; exact q2 j (by omega)
        · show badH σ s (u + (_ + 1)); rw [eshift]; exact q3 (by omega)
      have hwr : ∀ j, j < X.n → (wrX σ X ((u : Int) + 1)).w j = (wrX σ (rdX σ u) ((u : Int) + 1)).w j := fun j hj => by
        show (if j < X.n then X.w j + ps (br σ X.k X.n ((u : Int) + 1) j) else X.w j) = (if j < (rdX σ u).n then _ else _)
        rw [if_pos hj, if_pos (by omega), hbr j (by omega), (hX j hj).2.1]
      have fin : ∀ (X' : RW), X'.n = (rdX σ (u + 1)).n → (∀ j, j < X'.n → X'.k j = (rdX σ (u + 1)).k j ∧ X'.w j = (rdX σ (u + 1)).w j ∧ X'.s j = Dd σ s (u + 1) j) → bts σ f (u + 1) X' (dq s X'.n) = if lf (fun q => badH σ s (u + q)) (f + 1) < f + 1 then ((u + lf (fun q => badH σ s (u + q)) (f + 1) : Nat) : Int) + 1 else -1 := fun X' a b => by
        rw [bts_eq O s f (u + 1) X' (by omega) a b, e]
        by_cases hl : lf (fun q => badH σ s (u + 1 + q)) f < f
        · rw [if_pos hl, if_pos (by omega)]; congr 2; omega
        · rw [if_neg hl, if_neg (by omega)]
      rcases rd_step (σ := σ) u with ⟨ha, he⟩ | ⟨ha, he⟩
      · rw [if_pos ha]
        have e2 : ((wrX σ X ((u : Int) + 1)).ins X.n (adN σ (hb σ u) ((u : Int) + 1)) (drw (dq s X.n) (eI (ST σ (adN σ (hb σ u) ((u : Int) + 1))))).toInt).n = X.n + 1 := rfl
        have := fin ((wrX σ X ((u : Int) + 1)).ins X.n (adN σ (hb σ u) ((u : Int) + 1)) (drw (dq s X.n) (eI (ST σ (adN σ (hb σ u) ((u : Int) + 1))))).toInt) (by rw [he, e2, hn]; rfl) (fun j hj => ?_)
        · exact this
        · have hj' : j < X.n + 1 := hj
          have hkk : insF (wrX σ X ((u : Int) + 1)).k X.n (adN σ (hb σ u) ((u : Int) + 1)) j = (rdX σ (u + 1)).k j := by
            rw [he]
            show insF X.k X.n _ j = insF (rdX σ u).k (rdX σ u).n _ j
            rw [← hn]
            by_cases ej : j = X.n
            · subst ej; rw [insF_eq, insF_eq]
            · rw [insF_lt (by omega), insF_lt (by omega)]; exact (hX j (by omega)).1
          refine ⟨hkk, ?_, ?_⟩
          · rw [he]
            show insF (wrX σ X ((u : Int) + 1)).w X.n 0 j = insF (wrX σ (rdX σ u) ((u : Int) + 1)).w (rdX σ u).n 0 j
            rw [← hn]
            by_cases ej : j = X.n
            · subst ej; rw [insF_eq, insF_eq]
            · rw [insF_lt (by omega), insF_lt (by omega)]; exact hwr j (by omega)
          · show insF X.s X.n _ j = Dd σ s (u + 1) j
            unfold Dd
            rw [← hkk]
            by_cases ej : j = X.n
            · subst ej; rw [insF_eq, insF_eq]
            · rw [insF_lt (by omega), insF_lt (by omega), (hX j (by omega)).2.2]
              unfold Dd
              show _ = (drw (dq s j) (eI (ST σ (X.k j)))).toInt
              rw [(hX j (by omega)).1]
      · rw [if_neg ha]
        have := fin (wrX σ X ((u : Int) + 1)) (by rw [he]; exact hn) (fun j hj => ?_)
        · exact this
        · have hj' : j < X.n := hj
          have hkk : (wrX σ X ((u : Int) + 1)).k j = (rdX σ (u + 1)).k j := by rw [he]; exact (hX j hj').1
          refine ⟨hkk, by rw [he]; exact hwr j hj', ?_⟩
          show X.s j = Dd σ s (u + 1) j
          rw [(hX j hj').2.2]
          unfold Dd
          rw [← hkk]
          show _ = (drw (dq s j) (eI (ST σ (X.k j)))).toInt
          rw [(hX j hj').1]
/-- a bet is lost ahead of a unit -/
theorem bet_by {σ : Nat → Int} (O : LOk σ) (s : Int32) {u : Nat} (hu : (u : Int) < σ 0) : (0 ≤ betS σ s ∧ betS σ s ≤ u) ↔ ∃ h, h < u ∧ badH σ s h := by
  have hU := O.u
  have hfc := O.fc
  have hb0 := bt0_dq (σ := σ) (s := s) (frn σ 0)
  have e : betS σ s = if lf (fun q => badH σ s (0 + q)) ((σ 0).toNat - 1) < (σ 0).toNat - 1 then ((0 + lf (fun q => badH σ s (0 + q)) ((σ 0).toNat - 1) : Nat) : Int) + 1 else -1 := by
    unfold betS
    rw [hb0.1]
    exact bts_eq O s ((σ 0).toNat - 1) 0 (btX σ s (frn σ 0)) (by omega) rfl (fun j hj => ⟨rfl, rfl, hb0.2 j hj⟩)
  have ez : (fun q => badH σ s (0 + q)) = badH σ s := by funext q; rw [Nat.zero_add]
  rw [e, ez, Nat.zero_add]
  obtain ⟨a, b, c⟩ := lf_sp (badH σ s) ((σ 0).toNat - 1)
  constructor
  · rintro ⟨h1, h2⟩
    split at h2
    · rename_i hl
      exact ⟨_, by omega, c hl⟩
    · rename_i hl
      rw [if_neg hl] at h1; omega
  · rintro ⟨h, hh, hb⟩
    have hl : lf (badH σ s) ((σ 0).toNat - 1) ≤ h := by
      rcases Nat.lt_or_ge h (lf (badH σ s) ((σ 0).toNat - 1)) with hlt | hge
      · exact absurd hb (b h hlt)
      · exact hge
    rw [if_pos (by omega)]
    omega
