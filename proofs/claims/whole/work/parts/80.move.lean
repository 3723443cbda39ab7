/-! moves -/
def cutT (τ : Nat → Int) (T : TS) (i : Nat) : TS := ⟨T.hd, i, T.k, T.w, T.run, T.hp.filter (fun p => decide (p.1 < (i : Int))), T.v + 1, fun j => if j = T.v then T.n - i else T.vs j, fun j => if j = T.v then fo τ T.k T.hd i else T.vu j, fun j q => if j = T.v then T.k (i + q) else T.vk j q⟩
def appT (T : TS) (k : Int) : TS := ⟨T.hd, T.n + 1, updI T.k T.n k, updI T.w T.n 0, T.run, T.hp, T.v, T.vs, T.vu, T.vk⟩
def runN (τ : Nat → Int) (T : TS) (sand : Prop) [Decidable sand] : Int := T.run + τ 4 - ldp τ (TX τ T) (T.hd + 1) + (if sand then τ 7 else 0)
noncomputable def ptN (τ : Nat → Int) (T : TS) : Nat := lf (Bad τ (fun i => ST τ (T.k i)) T.w (brp τ (TX τ T) (T.hd + 1))) T.n
noncomputable def mv1 (τ : Nat → Int) (T : TS) (r : Int) : TS := ⟨T.hd + 1, T.n, T.k, fun i => if i < ptN τ T then T.w i + ps (brp τ (TX τ T) (T.hd + 1) i) else T.w i, r, T.hp, T.v, T.vs, T.vu, T.vk⟩
noncomputable def mv2 (τ : Nat → Int) (T : TS) (r : Int) : TS := if ptN τ T < T.n then cutT τ (mv1 τ T r) (ptN τ T) else mv1 τ T r
noncomputable def mv3 (τ : Nat → Int) (T : TS) (r : Int) : TS := if 0 ≤ adN τ (hb τ T.hd) (T.hd + 1) then appT (mv2 τ T r) (adN τ (hb τ T.hd) (T.hd + 1)) else mv2 τ T r
theorem tn_congr {f g : Nat → Nat} : ∀ {n : Nat}, (∀ j, j < n → f j = g j) → tn f n = tn g n
  | 0, _ => rfl
  | n + 1, h => by rw [tn, tn, tn_congr (fun j hj => h j (by omega)), h n (by omega)]
theorem tn_cut {f : Nat → Nat} {v x : Nat} : tn (fun j => if j = v then x else f j) (v + 1) = tn f v + x := by
  rw [tn, if_pos rfl, tn_congr (fun j hj => if_neg (by omega))]
theorem TOk.cut {τ : Nat → Int} (O : LOk τ) {T : TS} (K : TOk τ T) {i : Nat} (hi : i < T.n) : TOk τ (cutT τ T i) := by
  have h1 := K.sz
  have h4 := K.hd4 O
  have h0 := K.hd0
  have hd1 := K.hd1
  have n18 := K.n18 O
  have hU := O.u
  refine ⟨h0, hd1, fun j hj => K.k j (by have : j < i := hj; omega), ?_, fun j hj => ?_, fun j hj q hq => ?_, fun j hj => ?_, ?_, fun p hp => ?_⟩
  · show i + tn (fun j => if j = T.v then T.n - i else T.vs j) (T.v + 1) ≤ 8 + hb τ T.hd
    rw [tn_cut]; omega
  · have hj' : j < T.v + 1 := hj
    show 1 ≤ (if j = T.v then T.n - i else T.vs j)
    split
    · omega
    · exact K.vs1 j (by omega)
  · have hj' : j < T.v + 1 := hj
    have hq' : q < (if j = T.v then T.n - i else T.vs j) := hq
    show 0 ≤ (if j = T.v then T.k (i + q) else T.vk j q) ∧ (if j = T.v then T.k (i + q) else T.vk j q) < τ 3
    by_cases hv : j = T.v
    · rw [if_pos hv] at hq' ⊢; exact K.k _ (by omega)
    · rw [if_neg hv] at hq' ⊢; exact K.vk j (by omega) q hq'
  · have hj' : j < T.v + 1 := hj
    show -1000 ≤ (if j = T.v then fo τ T.k T.hd i else T.vu j) ∧ (if j = T.v then fo τ T.k T.hd i else T.vu j) < τ 0
    by_cases hv : j = T.v
    · rw [if_pos hv]
      have := sm_lg O K.k (i := i) (by omega)
      unfold fo
      omega
    · rw [if_neg hv]; exact K.vu j (by omega)
  · exact Nat.le_trans (List.length_filter_le _ _) K.hp4
  · have hp' := List.mem_filter.mp hp
    have := of_decide_eq_true hp'.2
    exact ⟨(K.hpa p hp'.1).1, this⟩
theorem pS_n {l : List (Int × Int)} {n : Int} (hl : ∀ p, p ∈ l → p.1 < n) : pS l n = 0 ∧ cS l n = 0 := by
  induction l with
  | nil => exact ⟨rfl, rfl⟩
  | cons p l ih =>
    have h1 := ih (fun q hq => hl q (List.mem_cons_of_mem _ hq))
    have h2 := hl p (List.mem_cons_self ..)
    simp only [pS, cS]
    rw [if_neg (by omega), if_neg (by omega)]; omega
theorem pS_fl {l : List (Int × Int)} {i j : Int} (hj : j < i) : pS (l.filter (fun p => decide (p.1 < i))) j = pS l j ∧ cS (l.filter (fun p => decide (p.1 < i))) j = cS l j := by
  induction l with
  | nil => exact ⟨rfl, rfl⟩
  | cons p l ih =>
    by_cases h : p.1 < i
    · rw [List.filter_cons_of_pos (by simpa using h)]
      simp only [pS, cS, ih.1, ih.2]; exact ⟨trivial, trivial⟩
    · rw [List.filter_cons_of_neg (by simpa using h)]
      simp only [pS, cS]
      rw [ih.1, ih.2, if_neg (by omega), if_neg (by omega)]; omega
theorem hb_next {τ : Nat → Int} (O : LOk τ) {g : Int} (h0 : 0 ≤ g) : nhN τ (hb τ g) (g + 1) = hb τ (g + 1) := by
  have := nh_step O (g := g + 1) (by omega)
  rw [hz_next h0] at this
  exact this
theorem TOk.mv1 {τ : Nat → Int} (O : LOk τ) {T : TS} (K : TOk τ T) (h : T.hd + 1 < τ 0) (r : Int) : TOk τ (mv1 τ T r) := by
  have h1 := K.sz
  have h2 := hb_mono O (a := T.hd) (b := T.hd + 1) (by omega)
  have h0 := K.hd0
  refine ⟨by show 0 ≤ T.hd + 1; omega, Or.inl h, K.k, ?_, K.vs1, K.vk, K.vu, K.hp4, K.hpa⟩
  show T.n + tn T.vs T.v ≤ 8 + hb τ (T.hd + 1)
  omega
theorem TOk.mv2 {τ : Nat → Int} (O : LOk τ) {T : TS} (K : TOk τ T) (h : T.hd + 1 < τ 0) (r : Int) : TOk τ (mv2 τ T r) := by
  have k1 := TOk.mv1 O K h r
  unfold Jvm.Pilot.CLongTrainLaw_law_r4620_50404e.mv2
  split
  · rename_i hlt
    exact TOk.cut O k1 hlt
  · exact k1
theorem mv2_hd {τ : Nat → Int} {T : TS} {r : Int} : (mv2 τ T r).hd = T.hd + 1 := by
  unfold mv2
  split <;> rfl
theorem mv2_sz {τ : Nat → Int} {T : TS} {r : Int} : (mv2 τ T r).n + tn (mv2 τ T r).vs (mv2 τ T r).v = T.n + tn T.vs T.v := by
  unfold mv2
  split
  · rename_i hlt
    show ptN τ T + tn (fun j => if j = T.v then T.n - ptN τ T else T.vs j) (T.v + 1) = _
    rw [tn_cut]; omega
  · rfl
theorem TOk.mv3 {τ : Nat → Int} (O : LOk τ) {T : TS} (K : TOk τ T) (h : T.hd + 1 < τ 0) (r : Int) : TOk τ (mv3 τ T r) := by
  have k2 := TOk.mv2 O K h r
  have hsz := mv2_sz (τ := τ) (T := T) (r := r)
  have hhd := mv2_hd (τ := τ) (T := T) (r := r)
  have h1 := K.sz
  have h0 := K.hd0
  have hnx := hb_next O h0
  have hadb := adN_b O (hb τ T.hd) (T.hd + 1)
  unfold Jvm.Pilot.CLongTrainLaw_law_r4620_50404e.mv3
  split
  · rename_i had
    have hbn : hb τ (T.hd + 1) = hb τ T.hd + 1 := by
      rw [← hnx]
      unfold nhN adN at *
      split at had
      · rename_i hc; rw [if_pos hc]
      · omega
    refine ⟨k2.hd0, k2.hd1, fun j hj => ?_, ?_, k2.vs1, k2.vk, k2.vu, k2.hp4, fun p hp => ?_⟩
    · have hj' : j < (Jvm.Pilot.CLongTrainLaw_law_r4620_50404e.mv2 τ T r).n + 1 := hj
      show 0 ≤ updI _ _ _ j ∧ updI _ _ _ j < τ 3
      by_cases e : j = (Jvm.Pilot.CLongTrainLaw_law_r4620_50404e.mv2 τ T r).n
      · rw [e, updI_s]; omega
      · rw [updI_n _ e]; exact k2.k j (by omega)
    · show (Jvm.Pilot.CLongTrainLaw_law_r4620_50404e.mv2 τ T r).n + 1 + tn (Jvm.Pilot.CLongTrainLaw_law_r4620_50404e.mv2 τ T r).vs (Jvm.Pilot.CLongTrainLaw_law_r4620_50404e.mv2 τ T r).v ≤ 8 + hb τ (Jvm.Pilot.CLongTrainLaw_law_r4620_50404e.mv2 τ T r).hd
      rw [hhd, hbn]; omega
    · have := k2.hpa p hp
      exact ⟨this.1, by show p.1 < (((Jvm.Pilot.CLongTrainLaw_law_r4620_50404e.mv2 τ T r).n + 1 : Nat) : Int); omega⟩
  · exact k2
/-! the reference -/
theorem Eqv.u {τ σ : Nat → Int} (e : Eqv τ σ) {q : Nat} {x : Int} (hq : 483 ≤ q) : Eqv τ (updI σ q x) := fun j hj => by rw [updI_n _ (by omega)]; exact e j hj
theorem M_partsAt {τ σ : Nat → Int} (O : LOk τ) (e : Eqv τ σ) {T : TS} (R : RT σ T) (K : TOk τ T) {i : Nat} (hi : i < T.n) {f : F32} (hf : f i = eI (fo τ T.k T.hd i)) {Q : F32 → Prop} (hq : ∀ σ', Eqv τ σ' → (∀ q, 977 ≤ q → σ' q = σ q) → σ' 535 = σ 535 → RT σ' (cutT τ T i) → Q (eF σ')) : w_LongTrainModel_partsAt (eF σ) f (eI i) Q := by
  have n18 := K.n18 O
  have hvge := tn_ge K.vs1
  have hp4 := K.hp4
  unfold w_LongTrainModel_partsAt
  rw [eF_ap, R.v, eF_ap, R.n]
  have e1 : (537 + 22 * (T.v : Int)).toNat = 537 + 22 * T.v := by omega
  have e2 : (537 + 22 * (T.v : Int) + 1).toNat = 537 + 22 * T.v + 1 := by omega
  (try simp only [eI_lit, eI_neg, eI_add, eI_sub, eI_mul, eF_ap, upd_eF])
  refine And.intro (eI_in (by omega) (by omega) (by omega)) ?_; refine And.intro (eI_in (by omega) (by omega) (by omega)) ?_; refine And.intro (eI_in (by omega) (by omega) (by omega)) ?_; (try simp (disch := omega) only [eI_cl, Int.toNat_natCast])
  rw [hf, e1, e2]
  (try simp only [eI_lit, eI_neg, eI_add, eI_sub, eI_mul, eF_ap, upd_eF])
  have hsub : (T.n : Int) - (i : Int) = ((T.n - i : Nat) : Int) := by omega
  rw [hsub]
  refine lg_LongTrainModel_partsAt_48 (G := Nat) (fun g x3 r => i ≤ g ∧ g ≤ T.n ∧ x3 = eI g ∧ ∃ σ1, r = eF σ1 ∧ (∀ q, (q < 537 + 22 * T.v ∨ 537 + 22 * T.v + 22 ≤ q) → σ1 q = σ q) ∧ σ1 (537 + 22 * T.v) = ((T.n - i : Nat) : Int) ∧ σ1 (537 + 22 * T.v + 1) = fo τ T.k T.hd i ∧ ∀ q, q < g - i → σ1 (537 + 22 * T.v + 2 + q) = T.k (i + q)) (fun g => T.n - g) ?_ i ⟨by omega, by omega, rfl, _, rfl, fun q hq => by rw [updI_n _ (by omega), updI_n _ (by omega)], by rw [updI_n _ (by omega), updI_s], updI_s _ _ _, fun q hq => by omega⟩
  rintro kr g x3 r ⟨hig, hgn, rfl, σ1, rfl, ho, ha, hb1, hc⟩ hs
  unfold b_LongTrainModel_partsAt_48
  have o484 : σ1 484 = T.n := by rw [ho 484 (by omega)]; exact R.n
  rw [eF_ap, o484]
  refine q_le (by (first | exact B31_s (by omega) (by omega) | exact B31_of _ | (constructor <;> omega))) (by (first | exact B31_s (by omega) (by omega) | exact B31_of _ | (constructor <;> omega))) (fun h => ?_) (fun h => ?_)
  · have eg : g = T.n := by omega
    subst eg
    have o536 : σ1 536 = T.v := by rw [ho 536 (by omega)]; exact R.v
    (try simp only [eI_lit, eI_neg, eI_add, eI_sub, eI_mul, eF_ap, upd_eF])
    rw [o536]
    generalize hS2 : updI (updI σ1 536 ((T.v : Int) + 1)) 484 (i : Int) = σ2
    have s2 : ∀ q, q ≠ 484 → q ≠ 536 → σ2 q = σ1 q := fun q h1 h2 => by rw [← hS2, updI_n _ h1, updI_n _ h2]
    have s484 : σ2 484 = i := by rw [← hS2, updI_s]
    have s536 : σ2 536 = T.v + 1 := by rw [← hS2, updI_n _ (by omega), updI_s]
    have m2 : σ2 486 = T.hp.length := by rw [s2 486 (by omega) (by omega), ho 486 (by omega)]; exact R.m
    refine lg_LongTrainModel_partsAt_114 (G := Nat) (fun g x3 x4 r => g ≤ T.hp.length ∧ x3 = eI ((T.hp.take g).filter (fun p => decide (p.1 < (i : Int)))).length ∧ x4 = eI g ∧ ∃ σ3, r = eF σ3 ∧ (∀ q, (q < 487 ∨ 495 ≤ q) → σ3 q = σ2 q) ∧ (∀ (q : Nat) (p : Int × Int), ((T.hp.take g).filter (fun p => decide (p.1 < (i : Int))))[q]? = some p → σ3 (487 + q) = p.1 ∧ σ3 (491 + q) = p.2) ∧ (∀ (q : Nat) (p : Int × Int), g ≤ q → T.hp[q]? = some p → σ3 (487 + q) = p.1 ∧ σ3 (491 + q) = p.2)) (fun g => T.hp.length - g) ?_ 0 ⟨by omega, rfl, rfl, σ2, rfl, fun _ _ => rfl, fun q p hq => by simp at hq, fun q p _ hq => ?_⟩
    · rintro kr2 g x3 x4 r ⟨hg, rfl, rfl, σ3, rfl, h3, hk, hr⟩ hs2
      have hlen := List.length_filter_le (fun p : Int × Int => decide (p.1 < (i : Int))) (T.hp.take g)
      have hlt : (T.hp.take g).length ≤ g := by rw [List.length_take]; omega
      unfold b_LongTrainModel_partsAt_114
      rw [eF_ap, h3 486 (by omega), m2]
      refine q_le (by (first | exact B31_s (by omega) (by omega) | exact B31_of _ | (constructor <;> omega))) (by (first | exact B31_s (by omega) (by omega) | exact B31_of _ | (constructor <;> omega))) (fun h4 => ?_) (fun h4 => ?_)
      · have eg : T.hp.take g = T.hp := List.take_of_length_le (by omega)
        rw [eg] at hk ⊢
        (try simp only [eI_lit, eI_neg, eI_add, eI_sub, eI_mul, eF_ap, upd_eF])
        refine hq _ (fun j hj => ?_) (fun q hq => ?_) (by rw [updI_n _ (by omega), h3 535 (by omega), s2 535 (by omega) (by omega), ho 535 (by omega)]) ⟨?_, ?_, ?_, ?_, ?_, ?_, ?_, ?_, ?_, ?_, ?_, ?_⟩
        · rw [updI_n _ (by omega), h3 j (by omega), s2 j (by omega) (by omega), ho j (by omega)]; exact e j hj
        · rw [updI_n _ (by omega), h3 q (by omega), s2 q (by omega) (by omega), ho q (by omega)]
        · rw [updI_n _ (by omega), h3 483 (by omega), s2 483 (by omega) (by omega), ho 483 (by omega)]; exact R.hd
        · rw [updI_n _ (by omega), h3 484 (by omega), s484]; rfl
        · rw [updI_n _ (by omega), h3 485 (by omega), s2 485 (by omega) (by omega), ho 485 (by omega)]; exact R.run
        · rw [updI_s]; rfl
        · intro q p hqp
          have hql : q < (T.hp.filter (fun p => decide (p.1 < (i : Int)))).length := by
            have := (List.getElem?_eq_some_iff.mp hqp).1; exact this
          have := hk q p hqp
          rw [updI_n _ (by omega), updI_n _ (by omega)]; exact this
        · intro j hj
          have hj' : j < i := hj
          rw [updI_n _ (by omega), h3 _ (by omega), s2 _ (by omega) (by omega), ho _ (by omega)]; exact R.k j (by omega)
        · intro j hj
          have hj' : j < i := hj
          rw [updI_n _ (by omega), h3 _ (by omega), s2 _ (by omega) (by omega), ho _ (by omega)]; exact R.w j (by omega)
        · rw [updI_n _ (by omega), h3 536 (by omega), s536]; rfl
        · intro j hj
          have hj' : j < T.v + 1 := hj
          show _ = ((if j = T.v then T.n - i else T.vs j : Nat) : Int)
          rw [updI_n _ (by omega), h3 _ (by omega), s2 _ (by omega) (by omega)]
          by_cases hv : j = T.v
          · rw [if_pos hv, hv]; exact ha
          · rw [if_neg hv, ho _ (by omega)]; exact R.vs j (by omega)
        · intro j hj
          have hj' : j < T.v + 1 := hj
          show _ = (if j = T.v then fo τ T.k T.hd i else T.vu j)
          rw [updI_n _ (by omega), h3 _ (by omega), s2 _ (by omega) (by omega)]
          by_cases hv : j = T.v
          · rw [if_pos hv, hv]; exact hb1
          · rw [if_neg hv, ho _ (by omega)]; exact R.vu j (by omega)
        · intro j hj q hq
          have hj' : j < T.v + 1 := hj
          have hq' : q < (if j = T.v then T.n - i else T.vs j) := hq
          show _ = (if j = T.v then T.k (i + q) else T.vk j q)
          by_cases hv : j = T.v
          · rw [if_pos hv] at hq' ⊢
            rw [updI_n _ (by omega), h3 _ (by omega), s2 _ (by omega) (by omega), hv]; exact hc q (by omega)
          · rw [if_neg hv] at hq' ⊢
            have htm := tn_mono (f := T.vs) (m := j) (n := T.v) (by omega)
            rw [updI_n _ (by omega), h3 _ (by omega), s2 _ (by omega) (by omega), ho _ (by omega)]; exact R.vk j (by omega) q hq'
        · intro q hq1 hq2
          have hhc := (O.c e).hc
          have eS : ∀ j, j < 483 → updI σ3 486 (((T.hp.filter (fun p => decide (p.1 < (i : Int)))).length : Nat) : Int) j = σ j := fun j hj => by rw [updI_n _ (by omega), h3 j (by omega), s2 j (by omega) (by omega), ho j (by omega)]
          rw [updI_n _ (by omega), h3 535 (by omega), s2 535 (by omega) (by omega), ho 535 (by omega)]
          rw [eS 1 (by omega)] at hq1
          have hat : AT (updI σ3 486 (((T.hp.filter (fun p => decide (p.1 < (i : Int)))).length : Nat) : Int)) q = AT σ q := eS _ (by omega)
          rw [hat] at hq2
          exact R.came q hq1 hq2
      · have hglt : g < T.hp.length := by omega
        have hgp : T.hp[g]? = some T.hp[g] := List.getElem?_eq_getElem hglt
        have hap := hr g _ (Nat.le_refl _) hgp
        have hmem := K.hpa T.hp[g] (List.getElem_mem hglt)
        have e3 : (487 + (g : Int)).toNat = 487 + g := by omega
        have e4 : (491 + (g : Int)).toNat = 491 + g := by omega
        have etk : T.hp.take (g + 1) = T.hp.take g ++ [T.hp[g]] := by rw [List.take_add_one, hgp]; rfl
        generalize hL : (T.hp.take g).filter (fun p => decide (p.1 < (i : Int))) = l at *
        have e5 : (487 + (l.length : Int)).toNat = 487 + l.length := by omega
        have e6 : (491 + (l.length : Int)).toNat = 491 + l.length := by omega
        (try simp only [eI_lit, eI_neg, eI_add, eI_sub, eI_mul, eF_ap, upd_eF]); refine And.intro (eI_in (by omega) (by omega) (by omega)) ?_; (try simp (disch := omega) only [eI_cl, Int.toNat_natCast])
        rw [e3, hap.1]
        refine q_lt (by (first | exact B31_s (by omega) (by omega) | exact B31_of _ | (constructor <;> omega))) (by (first | exact B31_s (by omega) (by omega) | exact B31_of _ | (constructor <;> omega))) (fun h5 => ?_) (fun h5 => ?_)
        · refine And.intro (eI_in (by omega) (by omega) (by omega)) ?_; refine And.intro (eI_in (by omega) (by omega) (by omega)) ?_; refine And.intro (eI_in (by omega) (by omega) (by omega)) ?_; refine And.intro (eI_in (by omega) (by omega) (by omega)) ?_
          (try simp (disch := omega) only [eI_cl, Int.toNat_natCast])
          rw [e4, e5, e6]
          have efl : (T.hp.take (g + 1)).filter (fun p => decide (p.1 < (i : Int))) = l ++ [T.hp[g]] := by
            rw [etk, List.filter_append, hL, List.filter_cons_of_pos (by simpa using h5)]; rfl
          (try simp only [eI_lit, eI_neg, eI_add, eI_sub, eI_mul, eF_ap, upd_eF])
          have hv : updI σ3 (487 + l.length) T.hp[g].1 (491 + g) = T.hp[g].2 := by rw [updI_n _ (by omega)]; exact hap.2
          rw [hv]
          refine hs2 (g + 1) _ _ _ (by omega) ⟨by omega, ?_, by congr 1, _, rfl, fun q hq => ?_, fun q p hqp => ?_, fun q p hq hqp => ?_⟩
          · rw [efl, List.length_append]; congr 1
          · rw [updI_n _ (by omega), updI_n _ (by omega)]; exact h3 q hq
          · rw [efl] at hqp
            by_cases hql : q < l.length
            · rw [List.getElem?_append_left hql] at hqp
              rw [updI_n _ (by omega), updI_n _ (by omega), updI_n _ (by omega), updI_n _ (by omega)]
              exact hk q p hqp
            · have hqe : q = l.length := by
                have := (List.getElem?_eq_some_iff.mp hqp).1
                rw [List.length_append] at this
                have h1 : [T.hp[g]].length = 1 := rfl
                omega
              subst hqe
              rw [List.getElem?_append_right (Nat.le_refl _), Nat.sub_self] at hqp
              have hpe : T.hp[g] = p := by simpa using hqp
              rw [updI_n _ (by omega), updI_s, updI_s, hpe]; exact ⟨rfl, rfl⟩
          · have hql : q < T.hp.length := (List.getElem?_eq_some_iff.mp hqp).1
            rw [updI_n _ (by omega), updI_n _ (by omega), updI_n _ (by omega), updI_n _ (by omega)]
            exact hr q p (by omega) hqp
        · have efl : (T.hp.take (g + 1)).filter (fun p => decide (p.1 < (i : Int))) = l := by
            rw [etk, List.filter_append, hL, List.filter_cons_of_neg (by simpa using h5)]; simp
          refine hs2 (g + 1) _ _ _ (by omega) ⟨by omega, by rw [efl], by congr 1, σ3, rfl, h3, fun q p hqp => ?_, fun q p hq hqp => hr q p (by omega) hqp⟩
          rw [efl] at hqp
          exact hk q p hqp
    · have hql : q < T.hp.length := (List.getElem?_eq_some_iff.mp hq).1
      rw [s2 _ (by omega) (by omega), s2 _ (by omega) (by omega), ho _ (by omega), ho _ (by omega)]
      exact R.ha q p hq
  · have e3 : (495 + (g : Int)).toNat = 495 + g := by omega
    have e4 : (537 + 22 * (T.v : Int) + 2 + (g : Int) - (i : Int)).toNat = 537 + 22 * T.v + 2 + (g - i) := by omega
    (try simp only [eI_lit, eI_neg, eI_add, eI_sub, eI_mul, eF_ap, upd_eF]); refine And.intro (eI_in (by omega) (by omega) (by omega)) ?_; refine And.intro (eI_in (by omega) (by omega) (by omega)) ?_; (try simp (disch := omega) only [eI_cl, Int.toNat_natCast])
    rw [e3, e4, ho (495 + g) (by omega), R.k g (by omega)]
    (try simp only [eI_lit, eI_neg, eI_add, eI_sub, eI_mul, eF_ap, upd_eF])
    refine hs (g + 1) _ _ (by omega) ⟨by omega, by omega, by congr 1, _, rfl, fun q hq => ?_, ?_, ?_, fun q hq => ?_⟩
    · rw [updI_n _ (by omega)]; exact ho q hq
    · rw [updI_n _ (by omega)]; exact ha
    · rw [updI_n _ (by omega)]; exact hb1
    · by_cases hqe : q = g - i
      · subst hqe; rw [updI_s]; congr 1; omega
      · rw [updI_n _ (by omega)]; exact hc q (by omega)
