/-! moves, go: the reference; part, move, go: the class -/
noncomputable def mvs (τ : Nat → Int) (s : Int) : Nat → TS → Nat × Int × TS
  | 0, T => (0, 0, T)
  | n + 1, T => if T.hd + 1 < τ 0 then (if (0 : Int32) ≤ eI (runN τ T (s = 1)) then ((mvs τ s n (mv3 τ T (runN τ T (s = 1)))).1 + 1, (mvs τ s n (mv3 τ T (runN τ T (s = 1)))).2) else (0, 1, T)) else (0, 2, T)
theorem mvs_bd (τ : Nat → Int) (s : Int) : ∀ (n : Nat) (T : TS), (mvs τ s n T).1 ≤ n ∧ 0 ≤ (mvs τ s n T).2.1 ∧ (mvs τ s n T).2.1 ≤ 2
  | 0, T => ⟨Nat.le_refl _, by show (0 : Int) ≤ 0; omega, by show (0 : Int) ≤ 2; omega⟩
  | n + 1, T => by
    unfold mvs
    split
    · split
      · have := mvs_bd τ s n (mv3 τ T (runN τ T (s = 1)))
        exact ⟨by show _ + 1 ≤ n + 1; omega, this.2.1, this.2.2⟩
      · exact ⟨by show 0 ≤ _; omega, by show (0 : Int) ≤ 1; omega, by show (1 : Int) ≤ 2; omega⟩
    · exact ⟨by show 0 ≤ _; omega, by show (0 : Int) ≤ 2; omega, by show (2 : Int) ≤ 2; omega⟩
theorem mvs_ok {τ : Nat → Int} (O : LOk τ) (s : Int) : ∀ (n : Nat) (T : TS), TOk τ T → TOk τ (mvs τ s n T).2.2
  | 0, T, K => K
  | n + 1, T, K => by
    unfold mvs
    split
    · rename_i h
      split
      · exact mvs_ok O s n _ (TOk.mv3 O K h _)
      · exact K
    · exact K
theorem M_moves {τ σ : Nat → Int} (O : LOk τ) (e : Eqv τ σ) {T : TS} (R : RT σ T) (K : TOk τ T) {i w f b : F32} {n : Nat} (hn : n ≤ 400) {s : Int} (hs : B31 s) {Q : F32 → F32 → F32 → F32 → F32 → Prop} (hq : ∀ i' σ' w' f' b', (∀ q, q ≠ 27 → q ≠ 28 → q ≠ 39 → q ≠ 40 → i' q = i q) → i' 39 = eI (mvs τ s n T).1 → i' 40 = eI (mvs τ s n T).2.1 → Eqv τ σ' → (∀ q, 977 ≤ q → σ' q = σ q) → RT σ' (mvs τ s n T).2.2 → Q i' (eF σ') w' f' b') : w_LongTrainModel_moves i (eF σ) w f b (eI n) (eI s) Q := by
  unfold w_LongTrainModel_moves
  refine lg_LongTrainModel_moves_10 (G := Nat) (fun g i' r w' f' b' => (∀ q, q ≠ 27 → q ≠ 28 → q ≠ 39 → q ≠ 40 → i' q = i q) ∧ ∃ σ', r = eF σ' ∧ Eqv τ σ' ∧ (∀ q, 977 ≤ q → σ' q = σ q) ∧ ((g = 0 ∧ i' 39 = eI (mvs τ s n T).1 ∧ i' 40 = eI (mvs τ s n T).2.1 ∧ (mvs τ s n T).2.1 ≠ 0 ∧ RT σ' (mvs τ s n T).2.2) ∨ ∃ (m : Nat) (T' : TS), g = n - m + 1 ∧ m ≤ n ∧ i' 39 = eI m ∧ i' 40 = eI 0 ∧ RT σ' T' ∧ TOk τ T' ∧ (mvs τ s n T).1 = m + (mvs τ s (n - m) T').1 ∧ (mvs τ s n T).2 = (mvs τ s (n - m) T').2)) (fun g => g) ?_ (n + 1) ⟨fun q h27 h28 h39 h40 => by rw [upd_n h40, upd_n h39], σ, rfl, e, fun _ _ => rfl, Or.inr ⟨0, T, by omega, by omega, by rw [upd_n (by omega), upd_s]; rfl, by rw [upd_s]; rfl, R, K, by rw [Nat.sub_zero]; omega, by rw [Nat.sub_zero]⟩⟩
  rintro kr g i' r w' f' b' ⟨hi, σ', rfl, e', t', hd⟩ hstep
  have hbd := mvs_bd τ s n T
  unfold b_LongTrainModel_moves_10
  rcases hd with ⟨rfl, h39, h40, hne, R'⟩ | ⟨m, T', rfl, hm, h39, h40, R', K', he1, he2⟩
  · have fin := hq i' σ' w' f' b' hi h39 h40 e' t' R'
    rw [h39, h40]
    refine q_le (by (first | exact B31_s (by omega) (by omega) | exact B31_of _ | (constructor <;> omega))) (by (first | exact B31_s (by omega) (by omega) | exact B31_of _ | (constructor <;> omega))) (fun _ => fin) (fun _ => ?_)
    exact q_ne (b := 0) (by (first | exact B31_s (by omega) (by omega) | exact B31_of _ | (constructor <;> omega))) (by (first | exact B31_s (by omega) (by omega) | exact B31_of _ | (constructor <;> omega))) (fun _ => fin) (fun h => absurd h hne)
  · rw [h39, h40]
    refine q_le (by (first | exact B31_s (by omega) (by omega) | exact B31_of _ | (constructor <;> omega))) (by (first | exact B31_s (by omega) (by omega) | exact B31_of _ | (constructor <;> omega))) (fun h => ?_) (fun h => ?_)
    · have em : n - m = 0 := by omega
      rw [em] at he1 he2
      refine hq i' σ' w' f' b' hi ?_ ?_ e' t' ?_
      · rw [h39, he1]; rfl
      · rw [h40, he2]; rfl
      · rw [he2]; exact R'
    · refine q_ne (b := 0) (by (first | exact B31_s (by omega) (by omega) | exact B31_of _ | (constructor <;> omega))) (by (first | exact B31_s (by omega) (by omega) | exact B31_of _ | (constructor <;> omega))) (fun h => by omega) (fun _ => ?_)
      have em : n - m = (n - (m + 1)) + 1 := by omega
      rw [em, mvs] at he1 he2
      refine M_move O e' R' K' hs (fun hno => ?_) (fun hlt hno i2 w2 f2 b2 hi2 => ?_) (fun hlt hok i2 σ2 w2 f2 b2 hi2 e2 t2 R2 => ?_)
      · rw [if_neg hno] at he1 he2
        rw [upd_s]
        refine ⟨fun _ => ?_, fun h => absurd h (by decide)⟩
        refine hstep 0 _ _ _ _ _ (by omega) ⟨fun q a1 a2 a3 a4 => by rw [upd_n a3, upd_n a4]; exact hi q a1 a2 a3 a4, σ', rfl, e', t', Or.inl ⟨rfl, ?_, ?_, ?_, ?_⟩⟩
        · rw [upd_s, upd_n (by omega), h39, he1]; (try simp only [eI_lit, eI_neg, eI_add, eI_sub, eI_mul, eF_ap, upd_eF]); congr 1
        · rw [upd_n (by omega), upd_s, he2]; rfl
        · rw [he2]; show (2 : Int) ≠ 0; omega
        · rw [he2]; exact R'
      · rw [if_pos hlt, if_neg hno] at he1 he2
        rw [upd_s]
        refine ⟨fun _ => ?_, fun h => absurd h (by decide)⟩
        refine hstep 0 _ _ _ _ _ (by omega) ⟨fun q a1 a2 a3 a4 => by rw [upd_n a3, upd_n a4, hi2 q a1 a2]; exact hi q a1 a2 a3 a4, σ', rfl, e', t', Or.inl ⟨rfl, ?_, ?_, ?_, ?_⟩⟩
        · rw [upd_s, upd_n (by omega), hi2 39 (by omega) (by omega), h39, he1]; (try simp only [eI_lit, eI_neg, eI_add, eI_sub, eI_mul, eF_ap, upd_eF]); congr 1
        · rw [upd_n (by omega), upd_s, he2]; rfl
        · rw [he2]; show (1 : Int) ≠ 0; omega
        · rw [he2]; exact R'
      · rw [if_pos hlt, if_pos hok] at he1 he2
        rw [upd_s]
        refine ⟨fun h => absurd rfl h, fun _ => ?_⟩
        refine hstep (n - (m + 1) + 1) _ _ _ _ _ (by omega) ⟨fun q a1 a2 a3 a4 => by rw [upd_n a3, upd_n a4, hi2 q a1 a2]; exact hi q a1 a2 a3 a4, σ2, rfl, e2, fun q hq => by rw [t2 q hq, t' q hq], Or.inr ⟨m + 1, _, rfl, by omega, ?_, ?_, R2, TOk.mv3 O K' hlt _, ?_, he2⟩⟩
        · rw [upd_s, upd_n (by omega), hi2 39 (by omega) (by omega), h39]; (try simp only [eI_lit, eI_neg, eI_add, eI_sub, eI_mul, eF_ap, upd_eF]); congr 1
        · rw [upd_n (by omega), upd_s]; rfl
        · rw [he1]; show m + (_ + 1) = _; omega
theorem M_go {τ σ : Nat → Int} (O : LOk τ) (e : Eqv τ σ) {T : TS} (R : RT σ T) (K : TOk τ T) {i w f b : F32} {n s : Int} (hn : B31 n) (hs : B31 s) {Q : Int32 → F32 → F32 → F32 → F32 → F32 → Prop} (h0 : ¬ ((0 ≤ n ∧ n ≤ 400) ∧ 0 ≤ s ∧ s ≤ 1) → ∀ i' w' f' b', KP i i' → Q (-1) i' (eF σ) w' f' b') (hq : (0 ≤ n ∧ n ≤ 400) ∧ 0 ≤ s ∧ s ≤ 1 → ∀ i' σ' w' f' b', KP i i' → Eqv τ σ' → (∀ q, 977 ≤ q → σ' q = σ q) → RT σ' (mvs τ s n.toNat T).2.2 → Q (eI (mvs τ s n.toNat T).1) i' (eF σ') w' f' b') : w_LongTrainModel_go i (eF σ) w f b (eI n) (eI s) Q := by
  unfold w_LongTrainModel_go
  refine M_isIn (b := 0) (c := 400) hn (by (first | exact B31_s (by omega) (by omega) | exact B31_of _ | (constructor <;> omega))) (by (first | exact B31_s (by omega) (by omega) | exact B31_of _ | (constructor <;> omega))) (fun a1 a2 => ?_) (fun a => by (first | refine z0T ?_ | refine z0N ?_); exact h0 (by omega) _ _ _ _ KP.u0)
  (first | refine z1T ?_ | refine z1N ?_)
  refine M_isIn (b := 0) (c := 1) hs (by (first | exact B31_s (by omega) (by omega) | exact B31_of _ | (constructor <;> omega))) (by (first | exact B31_s (by omega) (by omega) | exact B31_of _ | (constructor <;> omega))) (fun b1 b2 => ?_) (fun a => by (first | refine z0T ?_ | refine z0N ?_); exact h0 (by omega) _ _ _ _ KP.u0)
  (first | refine z1T ?_ | refine z1N ?_)
  have en : n = ((n.toNat : Nat) : Int) := by omega
  have hq' := hq ⟨⟨a1, a2⟩, b1, b2⟩
  rw [en]
  refine M_moves O e R K (by omega) hs (fun i' σ' w' f' b' hi h39 h40 e' t' R' => ?_)
  rw [h39]
  refine hq' i' σ' w' f' b' (fun k hk => ?_) e' t' R'
  rw [hi k (by omega) (by omega) (by omega) (by omega), upd_n (by omega)]
/-! the class -/
theorem R_dropFrom {τ : Nat → Int} {X : RW} {head : Int} {nh : Nat} {i K L W S E P H : F32} (r : RowR τ X head nh i K L W S E P H) (hn : X.n ≤ 20) {m : Nat} (hm : m ≤ X.n) {Q : F32 → Prop} (hq : ∀ i', i' 8 = eI m → i' 9 = eI (sm (fun j => LG τ (X.k j)) m) → i' 10 = eI head → i' 11 = eI nh → Q i') : w_Row_dropFrom i L (eI m) Q := by
  unfold w_Row_dropFrom
  rw [show jmax (eI (m : Int)) 0 = eI m from by rw [show (0 : Int32) = eI 0 from rfl, jmax_e (by (first | exact B31_s (by omega) (by omega) | exact B31_of _ | (constructor <;> omega))) (by (first | exact B31_s (by omega) (by omega) | exact B31_of _ | (constructor <;> omega)))]; congr 1; omega]
  refine lg_Row_dropFrom_6 (G := Nat) (fun g x i' => m ≤ g ∧ g ≤ X.n ∧ x = eI g ∧ i' 8 = eI X.n ∧ i' 10 = eI head ∧ i' 11 = eI nh ∧ i' 9 = eI (sm (fun j => LG τ (X.k j)) X.n - (sm (fun j => LG τ (X.k j)) g - sm (fun j => LG τ (X.k j)) m))) (fun g => X.n - g) ?_ m ⟨Nat.le_refl _, hm, rfl, r.sz, r.hd, r.nx, by rw [r.tot]; congr 1; omega⟩
  rintro kr g x i' ⟨h1, h2, rfl, f8, f10, f11, f9⟩ hs
  unfold b_Row_dropFrom_6
  rw [f8]
  refine q_le (by (first | exact B31_s (by omega) (by omega) | exact B31_of _ | (constructor <;> omega))) (by (first | exact B31_s (by omega) (by omega) | exact B31_of _ | (constructor <;> omega))) (fun h => ?_) (fun h => ?_)
  · have eg : g = X.n := by omega
    subst eg
    show Q (upd i' 8 (jmin (i' 8) (eI m)))
    rw [f8, jmin_e (by (first | exact B31_s (by omega) (by omega) | exact B31_of _ | (constructor <;> omega))) (by (first | exact B31_s (by omega) (by omega) | exact B31_of _ | (constructor <;> omega)))]
    refine hq _ ?_ ?_ ?_ ?_
    · rw [upd_s]; congr 1; omega
    · rw [upd_n (by omega), f9]; congr 1; omega
    · rw [upd_n (by omega)]; exact f10
    · rw [upd_n (by omega)]; exact f11
  · refine And.intro (eI_in (by omega) (by omega) (by omega)) ?_; (try simp (disch := omega) only [eI_cl, Int.toNat_natCast])
    rw [f9, r.l g (by omega)]
    (try simp only [eI_lit, eI_neg, eI_add, eI_sub, eI_mul, eF_ap, upd_eF])
    refine hs (g + 1) _ _ (by omega) ⟨by omega, by omega, by congr 1, by rw [upd_n (by omega)]; exact f8, by rw [upd_n (by omega)]; exact f10, by rw [upd_n (by omega)]; exact f11, ?_⟩
    rw [upd_s, sm]; congr 1; omega
theorem C_part {τ : Nat → Int} (O : LOk τ) {T : TS} (K : TOk τ T) {it i kk L W S E P H ih hst hsz hun hk : F32} {nh : Nat} (rr : RowR τ (TX τ T) T.hd nh i kk L W S E P H) (hv : ih 5 = eI T.v) (hstd : ih 1 = eI (tn T.vs T.v)) (hsz' : ∀ j, j < T.v → hsz j = eI (T.vs j)) (hun' : ∀ j, j < T.v → hun j = eI (T.vu j)) (hsa : ∀ j, j < T.v → hst j = eI (tn T.vs j)) (hkd : ∀ j, j < T.v → ∀ i, i < T.vs j → hk (tn T.vs j + i) = eI (T.vk j i)) {m : Nat} (hm : m < T.n) {Q : F32 → F32 → F32 → F32 → F32 → F32 → Prop} (hq : ∀ ih' i' hst' hsz' hun' hk', RowR τ (TX τ (cutT τ T m)) T.hd nh i' kk L W S E P H → ih' 5 = eI ((T.v + 1 : Nat) : Int) → ih' 1 = eI (tn (cutT τ T m).vs (T.v + 1)) → (∀ j, j < T.v + 1 → hsz' j = eI ((cutT τ T m).vs j)) → (∀ j, j < T.v + 1 → hun' j = eI ((cutT τ T m).vu j)) → (∀ j, j < T.v + 1 → hst' j = eI (tn (cutT τ T m).vs j)) → (∀ j, j < T.v + 1 → ∀ i, i < (cutT τ T m).vs j → hk' (tn (cutT τ T m).vs j + i) = eI ((cutT τ T m).vk j i)) → Q ih' i' hst' hsz' hun' hk') : w_Train_part ih i hst hsz hun L hk kk (eI m) Q := by
  have n18 := K.n18 O
  have hvge := tn_ge K.vs1
  have hn20 : (TX τ T).n ≤ 20 := by show T.n ≤ 20; omega
  have tnc : ∀ j, j ≤ T.v → tn (fun j => if j = T.v then T.n - m else T.vs j) j = tn T.vs j := fun j hj => tn_congr (fun q hq => if_neg (by omega))
  unfold w_Train_part w_Halves_add
  have es : i 8 = eI T.n := rr.sz
  rw [es, hv, hstd]
  (try simp only [eI_lit, eI_neg, eI_add, eI_sub, eI_mul, eF_ap, upd_eF])
  refine q_lt (by (first | exact B31_s (by omega) (by omega) | exact B31_of _ | (constructor <;> omega))) (by (first | exact B31_s (by omega) (by omega) | exact B31_of _ | (constructor <;> omega))) (fun h => by omega) (fun _ => ?_)
  refine q_lt (by (first | exact B31_s (by omega) (by omega) | exact B31_of _ | (constructor <;> omega))) (by (first | exact B31_s (by omega) (by omega) | exact B31_of _ | (constructor <;> omega))) (fun h => by omega) (fun _ => ?_)
  refine q_le (by (first | exact B31_s (by omega) (by omega) | exact B31_of _ | (constructor <;> omega))) (by (first | exact B31_s (by omega) (by omega) | exact B31_of _ | (constructor <;> omega))) (fun h => by omega) (fun _ => ?_)
  refine q_le (by (first | exact B31_s (by omega) (by omega) | exact B31_of _ | (constructor <;> omega))) (by (first | exact B31_s (by omega) (by omega) | exact B31_of _ | (constructor <;> omega))) (fun _ => ?_) (fun h => by omega)
  refine And.intro (eI_in (by omega) (by omega) (by omega)) ?_; refine And.intro (eI_in (by omega) (by omega) (by omega)) ?_; (try simp (disch := omega) only [eI_cl, Int.toNat_natCast])
  refine R_foremostUnit rr hn20 (by show m ≤ T.n; omega) ?_
  refine And.intro (eI_in (by omega) (by omega) (by omega)) ?_
  refine lg_Halves_add_87 (G := Nat) (fun g x ih' hk' => m ≤ g ∧ g ≤ T.n ∧ x = eI g ∧ ih' 5 = eI ((T.v + 1 : Nat) : Int) ∧ ih' 1 = eI ((tn T.vs T.v + (g - m) : Nat) : Int) ∧ (∀ q, q < tn T.vs T.v → hk' q = hk q) ∧ ∀ q, q < g - m → hk' (tn T.vs T.v + q) = eI (T.k (m + q))) (fun g => T.n - g) ?_ m ⟨Nat.le_refl _, by omega, rfl, by rw [upd_s]; congr 1, by rw [upd_n (by omega), hstd]; congr 1; omega, fun _ _ => rfl, fun q hq => by omega⟩
  rintro kr g x ih' hk' ⟨h1, h2, rfl, f5, f1, ho, hnw⟩ hs
  unfold b_Halves_add_87
  rw [es]
  refine q_le (by (first | exact B31_s (by omega) (by omega) | exact B31_of _ | (constructor <;> omega))) (by (first | exact B31_s (by omega) (by omega) | exact B31_of _ | (constructor <;> omega))) (fun h => ?_) (fun h => ?_)
  · have eg : g = T.n := by omega
    subst eg
    refine R_dropFrom rr hn20 (by show m ≤ T.n; omega) (fun i2 g8 g9 g10 g11 => ?_)
    refine hq _ _ _ _ _ _ ⟨g8, g9, g10, g11, fun j hj => rr.k j (by have : j < m := hj; show j < T.n; omega), fun j hj => rr.l j (by have : j < m := hj; show j < T.n; omega), fun j hj => rr.w j (by have : j < m := hj; show j < T.n; omega), fun j hj => rr.s j (by have : j < m := hj; show j < T.n; omega), fun j hj => rr.e j (by have : j < m := hj; show j < T.n; omega), fun j hj => ?_, fun j hj => ?_⟩ f5 ?_ (fun j hj => ?_) (fun j hj => ?_) (fun j hj => ?_) (fun j hj q hq => ?_)
    · have hj' : j < m := hj
      rw [rr.p j (by show j < T.n; omega)]
      show eI (pS T.hp j) = eI (pS (T.hp.filter _) j)
      rw [(pS_fl (by omega)).1]
    · have hj' : j < m := hj
      rw [rr.h j (by show j < T.n; omega)]
      show eI (cS T.hp j) = eI (cS (T.hp.filter _) j)
      rw [(pS_fl (by omega)).2]
    · rw [f1]
      show _ = eI ((tn (fun j => if j = T.v then T.n - m else T.vs j) (T.v + 1) : Nat) : Int)
      rw [tn_cut]
    · show _ = eI ((if j = T.v then T.n - m else T.vs j : Nat) : Int)
      by_cases hjv : j = T.v
      · subst hjv; rw [upd_s, if_pos rfl]; congr 1; omega
      · rw [upd_n hjv, if_neg hjv]; exact hsz' j (by omega)
    · show _ = eI (if j = T.v then fo τ T.k T.hd m else T.vu j)
      by_cases hjv : j = T.v
      · subst hjv; rw [upd_s, if_pos rfl]; rfl
      · rw [upd_n hjv, if_neg hjv]; exact hun' j (by omega)
    · show _ = eI ((tn (fun j => if j = T.v then T.n - m else T.vs j) j : Nat) : Int)
      rw [tnc j (by omega)]
      by_cases hjv : j = T.v
      · subst hjv; rw [upd_s]
      · rw [upd_n hjv]; exact hsa j (by omega)
    · show hk' (tn (fun j => if j = T.v then T.n - m else T.vs j) j + q) = eI (if j = T.v then T.k (m + q) else T.vk j q)
      have hq' : q < (if j = T.v then T.n - m else T.vs j) := hq
      rw [tnc j (by omega)]
      by_cases hjv : j = T.v
      · rw [if_pos hjv] at hq' ⊢; rw [hjv]; exact hnw q hq'
      · rw [if_neg hjv] at hq' ⊢
        have htm := tn_mono (f := T.vs) (m := j) (n := T.v) (by omega)
        rw [ho _ (by omega)]; exact hkd j (by omega) q hq'
  · refine And.intro (eI_in (by omega) (by omega) (by omega)) ?_
    rw [f1]
    refine And.intro (eI_in (by omega) (by omega) (by omega)) ?_; (try simp (disch := omega) only [eI_cl, Int.toNat_natCast])
    have ek : kk g = eI (T.k g) := rr.k g (by show g < T.n; omega)
    rw [ek]
    (try simp only [eI_lit, eI_neg, eI_add, eI_sub, eI_mul, eF_ap, upd_eF])
    refine hs (g + 1) _ _ _ (by omega) ⟨by omega, by omega, by congr 1, by rw [upd_n (by omega)]; exact f5, by rw [upd_s]; congr 1; omega, fun q hq => by rw [upd_n (by omega)]; exact ho q hq, fun q hq => ?_⟩
    by_cases hqe : q = g - m
    · subst hqe; rw [upd_s]; congr 2; omega
    · rw [upd_n (by omega)]; exact hnw q (by omega)
