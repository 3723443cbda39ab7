/-! longest of the reference: its rows of places are those of the tree -/
theorem fd_add {F : Nat → Nat} : ∀ (k a : Nat), fd (fun q c => c + F q) k a = a + fd (fun q c => c + F q) k 0
  | 0, a => by simp [fd]
  | k + 1, a => by
    have := fd_add (F := F) k a
    simp only [fd]
    omega
def fsum (F : Nat → Nat) : Nat → Nat → Nat
  | _, 0 => 0
  | q, d + 1 => F q + fsum F (q + 1) d
theorem fsum_r {F : Nat → Nat} : ∀ (d q : Nat), fsum F q (d + 1) = fsum F q d + F (q + d)
  | 0, q => by simp [fsum]
  | d + 1, q => by
    have := fsum_r (F := F) d (q + 1)
    rw [fsum, this, fsum]
    have e : q + 1 + d = q + (d + 1) := by omega
    rw [e]; omega
theorem fd_fsum {F : Nat → Nat} : ∀ k : Nat, fd (fun q c => c + F q) k 0 = fsum F 0 k
  | 0 => rfl
  | k + 1 => by
    rw [fsum_r, ← fd_fsum k]
    simp [fd]
theorem plc3 {σ : Nat → Int} {pc : Nat → Nat} {n : Nat} {X : RW} {a : Int} : plcR σ 3 pc n X a = if n < 4 then pc n else X.n := by
  unfold plcR
  rw [if_neg (by omega)]
  by_cases h : n < 4
  · rw [if_pos ⟨rfl, h⟩, if_pos h]
  · rw [if_neg (fun h2 => h h2.2), if_neg (by omega), if_neg h]
theorem M_tree {σ : Nat → Int} (O : LOk σ) {kx : QLg} {i0 : F32} : ∀ (f g : Nat) (X : RW) (n : Nat) (pc : Nat → Nat) (A : AC) (M : Nat),
    g + f = (σ 0).toNat - 1 → n ≤ g → X.n = (σ 10).toNat + n → (∀ q, n ≤ q → q < 4 → pc q = 0) → (∀ q, q < 4 → pc q ≤ (σ 10).toNat + q) → ABd A →
    (∀ pc' : Nat → Nat, (∀ q, q < n → q < 4 → pc' q = pc q) → lvs σ (plcR σ 3 pc') ((σ 0).toNat - 1) 0 (FX σ 0) 0 = lvs σ (plcR σ 3 pc') f g X n) →
    cry (σ 10).toNat (HL_ σ kx i0 1 M) (HL_ σ kx i0 0 M) (min n 4) pc (srch σ f g X n pc A) → HL_ σ kx i0 1 (M + cnt σ f g X n) pc A
  | 0, g, X, n, pc, A, M, hg, hng, hx, hz, hpc, hA, hrun, h => by
    rw [srch] at h
    rw [cnt]
    have := hrun pc (fun q _ _ => rfl)
    rw [lvs] at this
    exact M_lbody O this hpc hA h
  | f + 1, g, X, n, pc, A, M, hg, hng, hx, hz, hpc, hA, hrun, h => by
    have hU := O.u
    rw [srch] at h
    rw [cnt]
    by_cases hp : ptL σ X ((g : Int) + 1) < X.n
    · rw [if_pos hp] at h ⊢
      have := hrun pc (fun q _ _ => rfl)
      rw [lvs, if_pos hp] at this
      exact M_lbody O this hpc hA h
    · rw [if_neg hp] at h ⊢
      by_cases ha : 0 ≤ adN σ (hb σ g) ((g : Int) + 1)
      · rw [if_pos ha] at h ⊢
        have hrun2 : ∀ pc' : Nat → Nat, (∀ q, q < n → q < 4 → pc' q = pc q) → lvs σ (plcR σ 3 pc') ((σ 0).toNat - 1) 0 (FX σ 0) 0 = lvs σ (plcR σ 3 pc') f (g + 1) ((wrX σ X ((g : Int) + 1)).ins (if n < 4 then pc' n else X.n) (adN σ (hb σ g) ((g : Int) + 1)) (ST σ (adN σ (hb σ g) ((g : Int) + 1)))) (n + 1) := fun pc' hp' => by
          have := hrun pc' hp'
          rw [lvs, if_neg hp, if_pos ha, plc3] at this
          exact this
        clear hrun
        generalize adN σ (hb σ g) ((g : Int) + 1) = a at *
        by_cases h4 : n < 4
        · rw [if_pos h4] at h ⊢
          have e4 : min n 4 = n := by omega
          rw [e4] at h
          have hz0 := hz n (Nat.le_refl _) h4
          rw [fd_fsum]
          have key : ∀ d q, q + d = X.n + 1 → HL_ σ kx i0 1 (M + fsum (fun q => cnt σ f (g + 1) ((wrX σ X ((g : Int) + 1)).ins q a (ST σ a)) (n + 1)) q d) (updN pc n q) (fd (fun q A => srch σ f (g + 1) ((wrX σ X ((g : Int) + 1)).ins q a (ST σ a)) (n + 1) (updN pc n q) A) q A) ∨ d = 0 := by
            intro d
            induction d with
            | zero => intro q _; exact Or.inr rfl
            | succ d ih =>
              intro q hq
              refine Or.inl ?_
              rw [fsum]
              have eM : M + (cnt σ f (g + 1) ((wrX σ X ((g : Int) + 1)).ins q a (ST σ a)) (n + 1) + fsum (fun q => cnt σ f (g + 1) ((wrX σ X ((g : Int) + 1)).ins q a (ST σ a)) (n + 1)) (q + 1) d) = (M + fsum (fun q => cnt σ f (g + 1) ((wrX σ X ((g : Int) + 1)).ins q a (ST σ a)) (n + 1)) (q + 1) d) + cnt σ f (g + 1) ((wrX σ X ((g : Int) + 1)).ins q a (ST σ a)) (n + 1) := by omega
              rw [eM]
              refine M_tree O f (g + 1) ((wrX σ X ((g : Int) + 1)).ins q a (ST σ a)) (n + 1) (updN pc n q) _ _ (by omega) (by omega) (by show X.n + 1 = _; omega) (fun q' h1 h2 => ?_) (fun q' h2 => ?_) ?_ (fun pc' hp' => ?_) ?_
              · rw [updN_n (by omega)]; exact hz q' (by omega) h2
              · by_cases e : q' = n
                · subst e; rw [updN_s]; omega
                · rw [updN_n e]; exact hpc q' h2
              · exact fd_bd (P := ABd) hA (fun q a ha => srch_bd f _ _ _ _ _ (by omega) ha) _
              · have := hrun2 pc' (fun q' h1 h2 => by rw [hp' q' (by omega) h2, updN_n (by omega)])
                rw [if_pos h4, hp' n (by omega) h4, updN_s] at this
                exact this
              · have e5 : min (n + 1) 4 = n + 1 := by omega
                rw [e5, cry, updN_s]
                by_cases hl : q = (σ 10).toNat + n
                · rw [if_pos hl, updN_u, updN_i hz0]
                  have e6 : X.n + 1 = q + 1 := by omega
                  rw [e6, fd] at h
                  have ed : d = 0 := by omega
                  subst ed
                  exact h
                · rw [if_neg hl, updN_u]
                  rcases ih (q + 1) (by omega) with hh | hh
                  · exact hh
                  · omega
          rcases key (X.n + 1) 0 (by omega) with hh | hh
          · rw [updN_i hz0] at hh; exact hh
          · omega
        · rw [if_neg h4] at h ⊢
          refine M_tree O f (g + 1) _ (n + 1) pc A M (by omega) (by omega) (by show X.n + 1 = _; omega) (fun q h1 h2 => by omega) hpc hA (fun pc' hp' => ?_) ?_
          · have := hrun2 pc' (fun q' h1 h2 => hp' q' (by omega) h2)
            rw [if_neg h4] at this
            exact this
          · have e4 : min (n + 1) 4 = min n 4 := by omega
            rw [e4]; exact h
      · rw [if_neg ha] at h ⊢
        refine M_tree O f (g + 1) _ n pc A M (by omega) (by omega) hx hz hpc hA (fun pc' hp' => ?_) h
        have := hrun pc' hp'
        rw [lvs, if_neg hp, if_neg ha] at this
        exact this
noncomputable def lngS (σ : Nat → Int) : AC := srch σ ((σ 0).toNat - 1) 0 (FX σ 0) 0 (fun _ => 0) (-1, fun _ => 0)
theorem KG.u0 {i : F32} : KG i (upd i 0 0) := fun k hk => upd_n (by omega)
theorem M_longest {σ : Nat → Int} (O : LOk σ) {i pr w st wo f b bp : F32} {Q : QLg} (hq : ∀ i' pr' w' st' wo' f' b' bp', AR (lngS σ) i i' bp' → Q (eI (lngS σ).1) i' pr' w' st' wo' f' b' bp') : w_LongTrainModel_longest i pr (eF σ) w st wo f b bp Q := by
  have hU := O.u
  have hfc := O.fc
  unfold w_LongTrainModel_longest
  refine lg_LongTrainModel_longest_9 (G := Nat) (fun g x pr' => g ≤ 4 ∧ x = eI ((g : Nat) : Int) ∧ ∀ q, q < g → pr' q = eI 0) (fun g => 4 - g) ?_ 0 ⟨by omega, rfl, fun q hq => absurd hq (Nat.not_lt_zero _)⟩
  rintro kr g x pr' ⟨hg, rfl, hpr⟩ hst
  unfold b_LongTrainModel_longest_9
  refine q_le (a := 4) (by (first | exact B31_s (by omega) (by omega) | exact B31_of _ | (constructor <;> omega))) (by (first | exact B31_s (by omega) (by omega) | exact B31_of _ | (constructor <;> omega))) (fun h4 => ?_) (fun h4 => ?_)
  · have bd := srch_bd (σ := σ) ((σ 0).toNat - 1) 0 (FX σ 0) 0 (fun _ => 0) (-1, fun _ => 0) (by omega) ⟨by show (-1 : Int) ≤ -1; omega, by show (-1 : Int) ≤ 400; omega⟩
    have T := M_tree (kx := Q) (i0 := i) O ((σ 0).toNat - 1) 0 (FX σ 0) 0 (fun _ => 0) (-1, fun _ => 0) 1 (by omega) (by omega) (by show (σ 10).toNat = _; omega) (fun q _ _ => rfl) (fun q _ => Nat.zero_le _) ⟨by show (-1 : Int) ≤ -1; omega, by show (-1 : Int) ≤ 400; omega⟩ (fun pc' _ => rfl) (by
      show cry (σ 10).toNat _ _ 0 _ _
      rw [cry]
      intro m hm i2 pr2 w2 st2 wo2 f2 b2 bp2 hpr2 R2
      obtain ⟨m', rfl⟩ : ∃ m', m = m' + 1 := ⟨m - 1, by omega⟩
      show b_LongTrainModel_longest_29 (eF σ) Q (lp_LongTrainModel_longest_29 (eF σ) Q m') (eI (lngS σ).1) 0 i2 pr2 w2 st2 wo2 f2 b2 bp2
      unfold b_LongTrainModel_longest_29
      (first | refine z0T ?_ | refine z0N ?_)
      exact hq _ _ _ _ _ _ _ _ R2)
    exact ⟨_, T _ (Nat.le_refl _) (upd i 0 0) pr' w st wo f b bp (fun q hq => hpr q (by omega)) ⟨KG.u0, fun h => absurd h (by show ¬ (0 : Int) ≤ -1; omega), fun h => absurd h (by show ¬ (0 : Int) ≤ -1; omega)⟩⟩
  · refine And.intro (eI_in (by omega) (by omega) (by omega)) ?_; (try simp (disch := omega) only [eI_cl, Int.toNat_natCast])
    refine hst (g + 1) _ _ (by omega) ⟨by omega, by (try simp only [eI_lit, eI_neg, eI_add, eI_sub, eI_mul, eF_ap, upd_eF]); congr 1, fun q hq => ?_⟩
    by_cases eq : q = g
    · subst eq; rw [upd_s]; rfl
    · rw [upd_n eq]; exact hpr q (by omega)
