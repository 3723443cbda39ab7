/-! longest: all rows of places, in their order -/
abbrev AC := Int × (Nat → Nat)
def updN (f : Nat → Nat) (k x : Nat) : Nat → Nat := fun q => if q = k then x else f q
theorem updN_s {f : Nat → Nat} {k x : Nat} : updN f k x k = x := by simp [updN]
theorem updN_n {f : Nat → Nat} {k x q : Nat} (h : q ≠ k) : updN f k x q = f q := by simp [updN, h]
theorem updN_u {f : Nat → Nat} {k x y : Nat} : updN (updN f k x) k y = updN f k y := by
  funext q
  unfold updN
  by_cases h : q = k
  · rw [if_pos h, if_pos h]
  · rw [if_neg h, if_neg h, if_neg h]
theorem updN_i {f : Nat → Nat} {k x : Nat} (h : f k = x) : updN f k x = f := by
  funext q
  unfold updN
  by_cases e : q = k
  · rw [if_pos e, e, h]
  · rw [if_neg e]
def lfA (n : Nat) (pc : Nat → Nat) (A : AC) : AC := if A.1 < (n : Int) then ((n : Int), pc) else A
def fd {α : Type} (F : Nat → α → α) : Nat → α → α
  | 0, a => a
  | k + 1, a => F k (fd F k a)
noncomputable def srch (σ : Nat → Int) : Nat → Nat → RW → Nat → (Nat → Nat) → AC → AC
  | 0, _, _, n, pc, A => lfA n pc A
  | f + 1, g, X, n, pc, A => if ptL σ X ((g : Int) + 1) < X.n then lfA n pc A
    else if 0 ≤ adN σ (hb σ g) ((g : Int) + 1) then
      (if n < 4 then fd (fun q A => srch σ f (g + 1) ((wrX σ X ((g : Int) + 1)).ins q (adN σ (hb σ g) ((g : Int) + 1)) (ST σ (adN σ (hb σ g) ((g : Int) + 1)))) (n + 1) (updN pc n q) A) (X.n + 1) A
       else srch σ f (g + 1) ((wrX σ X ((g : Int) + 1)).ins X.n (adN σ (hb σ g) ((g : Int) + 1)) (ST σ (adN σ (hb σ g) ((g : Int) + 1)))) (n + 1) pc A)
    else srch σ f (g + 1) (wrX σ X ((g : Int) + 1)) n pc A
/-- how many rows of places there are -/
noncomputable def cnt (σ : Nat → Int) : Nat → Nat → RW → Nat → Nat
  | 0, _, _, _ => 1
  | f + 1, g, X, n => if ptL σ X ((g : Int) + 1) < X.n then 1
    else if 0 ≤ adN σ (hb σ g) ((g : Int) + 1) then
      (if n < 4 then fd (fun q c => c + cnt σ f (g + 1) ((wrX σ X ((g : Int) + 1)).ins q (adN σ (hb σ g) ((g : Int) + 1)) (ST σ (adN σ (hb σ g) ((g : Int) + 1)))) (n + 1)) (X.n + 1) 0
       else cnt σ f (g + 1) ((wrX σ X ((g : Int) + 1)).ins X.n (adN σ (hb σ g) ((g : Int) + 1)) (ST σ (adN σ (hb σ g) ((g : Int) + 1)))) (n + 1))
    else cnt σ f (g + 1) (wrX σ X ((g : Int) + 1)) n
def ABd (A : AC) : Prop := -1 ≤ A.1 ∧ A.1 ≤ 400
theorem lfA_bd {n : Nat} {pc : Nat → Nat} {A : AC} (h : ABd A) (hn : n ≤ 400) : ABd (lfA n pc A) := by
  unfold lfA
  split
  · exact ⟨by show (-1 : Int) ≤ (n : Int); omega, by show (n : Int) ≤ 400; omega⟩
  · exact h
theorem fd_bd {α : Type} {P : α → Prop} {F : Nat → α → α} {a : α} (h : P a) (hF : ∀ q a, P a → P (F q a)) : ∀ k, P (fd F k a)
  | 0 => h
  | k + 1 => hF _ _ (fd_bd h hF k)
theorem srch_bd {σ : Nat → Int} : ∀ (f g : Nat) (X : RW) (n : Nat) (pc : Nat → Nat) (A : AC), n + f ≤ 400 → ABd A → ABd (srch σ f g X n pc A)
  | 0, g, X, n, pc, A, hn, h => by rw [srch]; exact lfA_bd h (by omega)
  | f + 1, g, X, n, pc, A, hn, h => by
    rw [srch]
    split
    · exact lfA_bd h (by omega)
    split
    · split
      · exact fd_bd (P := ABd) h (fun q a ha => srch_bd f _ _ _ _ _ (by omega) ha) _
      · exact srch_bd f _ _ _ _ _ (by omega) h
    · exact srch_bd f _ _ _ _ _ (by omega) h
theorem lvs_bd {σ : Nat → Int} {pl : Nat → RW → Int → Nat} : ∀ (f g : Nat) (X : RW) (n : Nat), lvs σ pl f g X n ≤ n + f
  | 0, g, X, n => by rw [lvs]; omega
  | f + 1, g, X, n => by
    rw [lvs]
    split
    · omega
    split
    · have := lvs_bd (σ := σ) (pl := pl) f (g + 1) ((wrX σ X ((g : Int) + 1)).ins (pl n (wrX σ X ((g : Int) + 1)) (adN σ (hb σ g) ((g : Int) + 1))) (adN σ (hb σ g) ((g : Int) + 1)) (ST σ (adN σ (hb σ g) ((g : Int) + 1)))) (n + 1)
      omega
    · have := lvs_bd (σ := σ) (pl := pl) f (g + 1) (wrX σ X ((g : Int) + 1)) n
      omega
/-! the reference -/
def KG (i i' : F32) : Prop := ∀ k, k = 2 ∨ k = 15 ∨ k = 38 ∨ k = 44 → i' k = i k
theorem Kp.g {i i' : F32} (h : Kp i i') : KG i i' := fun k hk => h k (by omega)
theorem KG.tr {i i' i'' : F32} (h : KG i i') (h2 : KG i' i'') : KG i i'' := fun k hk => (h2 k hk).trans (h k hk)
def mn4 (b : Int) : Int := if b < 4 then b else 4
def AR (A : AC) (i0 i bp : F32) : Prop :=
  (KG i0 i) ∧
  (0 ≤ A.1 → i 33 = eI (mn4 A.1)) ∧
  (0 ≤ A.1 → ∀ q, q < 4 → bp q = eI (A.2 q))
theorem AR.k {A : AC} {i0 i bp : F32} (h : AR A i0 i bp) : KG i0 i := h.1
theorem AR.m {A : AC} {i0 i bp : F32} (h : AR A i0 i bp) : 0 ≤ A.1 → i 33 = eI (mn4 A.1) := h.2.1
theorem AR.p {A : AC} {i0 i bp : F32} (h : AR A i0 i bp) : 0 ≤ A.1 → ∀ q, q < 4 → bp q = eI (A.2 q) := h.2.2
abbrev QLg := Int32 → F32 → F32 → F32 → F32 → F32 → F32 → F32 → F32 → Prop
def HL_ (σ : Nat → Int) (kx : QLg) (i0 : F32) (x2 : Int32) (N : Nat) (pc : Nat → Nat) (A : AC) : Prop :=
  ∀ m, N ≤ m → ∀ i pr w st wo f b bp, (∀ q, q < 4 → pr q = eI (pc q)) → AR A i0 i bp → lp_LongTrainModel_longest_29 (eF σ) kx m (eI A.1) x2 i pr w st wo f b bp
theorem HL_.mono {σ : Nat → Int} {kx : QLg} {i0 : F32} {x2 : Int32} {N N' : Nat} {pc : Nat → Nat} {A : AC} (h : HL_ σ kx i0 x2 N pc A) (hN : N ≤ N') : HL_ σ kx i0 x2 N' pc A := fun m hm => h m (by omega)
def cry (fi : Nat) (H F : (Nat → Nat) → AC → Prop) : Nat → (Nat → Nat) → AC → Prop
  | 0, pc, A => F pc A
  | k + 1, pc, A => if pc k = fi + k then cry fi H F k (updN pc k 0) A else H (updN pc k (pc k + 1)) A
theorem M_carry {σ : Nat → Int} (O : LOk σ) {kx : QLg} {i0 : F32} {M m : Nat} (hm : M ≤ m) {k : Nat} (hk : k ≤ 4) {pc : Nat → Nat} {A : AC} (hpc : ∀ q, q < 4 → pc q ≤ (σ 10).toNat + q) (h : cry (σ 10).toNat (HL_ σ kx i0 1 M) (HL_ σ kx i0 0 M) k pc A) {i pr w st wo f b bp : F32} (hpr : ∀ q, q < 4 → pr q = eI (pc q)) (R : AR A i0 i bp) {y : Int32} (hy : y = eI ((k : Nat) : Int)) : j_LongTrainModel_longest_111 i pr (eF σ) w st wo f b bp (eI A.1) y (lp_LongTrainModel_longest_29 (eF σ) kx m) := by
  have hfc := O.fc
  unfold j_LongTrainModel_longest_111
  refine lg_LongTrainModel_longest_115 (G := Nat) (fun k x pr => k ≤ 4 ∧ x = eI ((k : Int) - 1) ∧ ∃ pc : Nat → Nat, (∀ q, q < 4 → pc q ≤ (σ 10).toNat + q) ∧ (∀ q, q < 4 → pr q = eI (pc q)) ∧ cry (σ 10).toNat (HL_ σ kx i0 1 M) (HL_ σ kx i0 0 M) k pc A) (fun k => k) ?_ k ⟨hk, by rw [hy]; (try simp only [eI_lit, eI_neg, eI_add, eI_sub, eI_mul, eF_ap, upd_eF]), pc, hpc, hpr, h⟩
  clear h hpr hpc hy hk
  rintro kr k x pr ⟨hk, rfl, pc, hpc, hpr, h⟩ hst
  unfold b_LongTrainModel_longest_115
  refine q_lt0 (by (first | exact B31_s (by omega) (by omega) | exact B31_of _ | (constructor <;> omega))) (fun hl => ?_) (fun hl => ?_)
  · have e0 : k = 0 := by omega
    subst e0
    unfold j_LongTrainModel_longest_154
    refine q_lt0 (by (first | exact B31_s (by omega) (by omega) | exact B31_of _ | (constructor <;> omega))) (fun _ => ?_) (fun h => by omega)
    (first | refine z0T ?_ | refine z0N ?_)
    exact h m hm i pr w st wo f b bp hpr R
  · obtain ⟨k', rfl⟩ : ∃ k', k = k' + 1 := ⟨k - 1, by omega⟩
    have e1 : ((k' + 1 : Nat) : Int) - 1 = (k' : Int) := by omega
    rw [e1]
    rw [cry] at h
    have hk1 := hpc k' (by omega)
    refine And.intro (eI_in (by omega) (by omega) (by omega)) ?_; (try simp (disch := omega) only [eI_cl, Int.toNat_natCast])
    rw [hpr k' (by omega), eF_ap, eI_add]
    refine q_ne (by (first | exact B31_s (by omega) (by omega) | exact B31_of _ | (constructor <;> omega))) (by (first | exact B31_s (by omega) (by omega) | exact B31_of _ | (constructor <;> omega))) (fun hne => ?_) (fun he => ?_)
    · rw [if_neg (by omega)] at h
      unfold j_LongTrainModel_longest_154
      refine q_lt0 (by (first | exact B31_s (by omega) (by omega) | exact B31_of _ | (constructor <;> omega))) (fun h => by omega) (fun _ => ?_)
      (first | refine z1T ?_ | refine z1N ?_)
      refine And.intro (eI_in (by omega) (by omega) (by omega)) ?_
      refine And.intro (eI_in (by omega) (by omega) (by omega)) ?_
      (try simp (disch := omega) only [eI_cl, Int.toNat_natCast])
      refine h m hm i _ w st wo f b bp (fun q hq => ?_) R
      by_cases eq : q = k'
      · subst eq; rw [upd_s, updN_s, hpr q (by omega)]; (try simp only [eI_lit, eI_neg, eI_add, eI_sub, eI_mul, eF_ap, upd_eF]); congr 1
      · rw [upd_n eq, updN_n eq]; exact hpr q hq
    · rw [if_pos (by omega)] at h
      refine And.intro (eI_in (by omega) (by omega) (by omega)) ?_
      refine hst k' _ _ (by omega) ⟨by omega, by (try simp only [eI_lit, eI_neg, eI_add, eI_sub, eI_mul, eF_ap, upd_eF]); congr 1, updN pc k' 0, fun q hq => ?_, fun q hq => ?_, h⟩
      · by_cases eq : q = k'
        · subst eq; rw [updN_s]; omega
        · rw [updN_n eq]; exact hpc q hq
      · by_cases eq : q = k'
        · subst eq; rw [upd_s, updN_s]; rfl
        · rw [upd_n eq, updN_n eq]; exact hpr q hq
theorem M_lbody {σ : Nat → Int} (O : LOk σ) {kx : QLg} {i0 : F32} {M n : Nat} {pc : Nat → Nat} {A : AC} (hn : lvs σ (plcR σ 3 pc) ((σ 0).toNat - 1) 0 (FX σ 0) 0 = n) (hpc : ∀ q, q < 4 → pc q ≤ (σ 10).toNat + q) (hA : ABd A) (h : cry (σ 10).toNat (HL_ σ kx i0 1 M) (HL_ σ kx i0 0 M) (min n 4) pc (lfA n pc A)) : HL_ σ kx i0 1 (M + 1) pc A := by
  have hU := O.u
  have hn4 : n ≤ 400 := by
    have := lvs_bd (σ := σ) (pl := plcR σ 3 pc) ((σ 0).toNat - 1) 0 (FX σ 0) 0
    omega
  intro m hm i pr w st wo f b bp hpr R
  obtain ⟨hA1, hA2⟩ := hA
  obtain ⟨m', rfl⟩ : ∃ m', m = m' + 1 := ⟨m - 1, by omega⟩
  show b_LongTrainModel_longest_29 (eF σ) kx (lp_LongTrainModel_longest_29 (eF σ) kx m') (eI A.1) 1 i pr w st wo f b bp
  unfold b_LongTrainModel_longest_29
  (first | refine z1T ?_ | refine z1N ?_)
  refine M_livesBy (rule := 3) (pc := pc) O (by omega) (fun _ => hpr) (fun _ => hpc) (fun i' w' st' wo' f' b' K h32 => ?_)
  rw [hn] at h32 ⊢
  refine q_le (by (first | exact B31_s (by omega) (by omega) | exact B31_of _ | (constructor <;> omega))) (by (first | exact B31_s (by omega) (by omega) | exact B31_of _ | (constructor <;> omega))) (fun hle => ?_) (fun hlt => ?_)
  · have eA : lfA n pc A = A := by unfold lfA; rw [if_neg (by omega)]
    rw [eA] at h
    have R' : AR A i0 i' bp := ⟨R.k.tr K.g, fun h0 => (K 33 (by omega)).trans (R.m h0), R.p⟩
    unfold j_LongTrainModel_longest_95
    rw [h32]
    refine q_le (a := 4) (by (first | exact B31_s (by omega) (by omega) | exact B31_of _ | (constructor <;> omega))) (by (first | exact B31_s (by omega) (by omega) | exact B31_of _ | (constructor <;> omega))) (fun h4 => ?_) (fun h4 => ?_)
    · have e4 : min n 4 = 4 := by omega
      rw [e4] at h
      exact M_carry O (by omega) (by omega) hpc h hpr R' rfl
    · have e4 : min n 4 = n := by omega
      rw [e4] at h
      exact M_carry O (by omega) (by omega) hpc h hpr R' rfl
  · have eA : lfA n pc A = ((n : Int), pc) := by unfold lfA; rw [if_pos (by omega)]
    rw [eA] at h
    have main : ∀ y : Int32, y = eI ((min n 4 : Nat) : Int) → j_LongTrainModel_longest_63 i' pr (eF σ) w' st' wo' f' b' bp (eI n) y (lp_LongTrainModel_longest_29 (eF σ) kx m') := fun y hy => by
      unfold j_LongTrainModel_longest_63
      refine lg_LongTrainModel_longest_69 (G := Nat) (fun g x bp' => g ≤ 4 ∧ x = eI ((g : Nat) : Int) ∧ ∀ q, q < g → bp' q = eI (pc q)) (fun g => 4 - g) ?_ 0 ⟨by omega, rfl, fun q hq => absurd hq (Nat.not_lt_zero _)⟩
      rintro kr g x bp' ⟨hg, rfl, hbp⟩ hst
      unfold b_LongTrainModel_longest_69
      refine q_le (a := 4) (by (first | exact B31_s (by omega) (by omega) | exact B31_of _ | (constructor <;> omega))) (by (first | exact B31_s (by omega) (by omega) | exact B31_of _ | (constructor <;> omega))) (fun h4 => ?_) (fun h4 => ?_)
      · have R' : AR ((n : Int), pc) i0 (upd i' 33 y) bp' := by
          refine ⟨fun k hk => ?_, fun _ => ?_, fun _ q hq => hbp q (by omega)⟩
          · rw [upd_n (by omega)]; exact (R.k.tr K.g) k hk
          · rw [upd_s, hy]
            show eI ((min n 4 : Nat) : Int) = eI (mn4 (n : Int))
            unfold mn4
            split
            · congr 1; omega
            · congr 1; omega
        unfold j_LongTrainModel_longest_95
        rw [upd_n (by omega), h32]
        refine q_le (a := 4) (by (first | exact B31_s (by omega) (by omega) | exact B31_of _ | (constructor <;> omega))) (by (first | exact B31_s (by omega) (by omega) | exact B31_of _ | (constructor <;> omega))) (fun h4 => ?_) (fun h4 => ?_)
        · have e4 : min n 4 = 4 := by omega
          rw [e4] at h
          exact M_carry (A := ((n : Int), pc)) O (by omega) (by omega) hpc h hpr R' rfl
        · have e4 : min n 4 = n := by omega
          rw [e4] at h
          exact M_carry (A := ((n : Int), pc)) O (by omega) (by omega) hpc h hpr R' rfl
      · refine And.intro (eI_in (by omega) (by omega) (by omega)) ?_
        refine And.intro (eI_in (by omega) (by omega) (by omega)) ?_
        (try simp (disch := omega) only [eI_cl, Int.toNat_natCast])
        refine hst (g + 1) _ _ (by omega) ⟨by omega, by (try simp only [eI_lit, eI_neg, eI_add, eI_sub, eI_mul, eF_ap, upd_eF]); congr 1, fun q hq => ?_⟩
        by_cases eq : q = g
        · subst eq; rw [upd_s]; exact hpr q (by omega)
        · rw [upd_n eq]; exact hbp q (by omega)
    rw [h32]
    refine q_le (a := 4) (by (first | exact B31_s (by omega) (by omega) | exact B31_of _ | (constructor <;> omega))) (by (first | exact B31_s (by omega) (by omega) | exact B31_of _ | (constructor <;> omega))) (fun h4 => main _ ?_) (fun h4 => main _ ?_)
    · have e4 : min n 4 = 4 := by omega
      rw [e4]; rfl
    · have e4 : min n 4 = n := by omega
      rw [e4]
