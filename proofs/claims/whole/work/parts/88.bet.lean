/-! bet -/
def dsd (s : Int32) : Int32 := s * 1103515245 + 12345
def drw (s st : Int32) : Int32 := st - (ushr (dsd s) 8 - ushr (dsd s) 8 / (st / 4 + 1) * (st / 4 + 1))
theorem st4 {st : Int} (h1 : 1 ≤ st) (h2 : st ≤ 999) : eI st / 4 + 1 = eI (st / 4 + 1) := by
  have h4 : (4 : Int32) = eI 4 := rfl
  rw [h4, eI_div (by omega) (by omega) (by omega) (by omega)]
  (try simp only [eI_lit, eI_neg, eI_add, eI_sub, eI_mul, eF_ap, upd_eF])
theorem M_drawn {σ : Nat → Int} (O : LOk σ) {i : F32} {k : Int} (h0 : 0 ≤ k) (h1 : k < σ 3) {Q : Int32 → F32 → Prop} (hq : Q (drw (i 45) (eI (ST σ k))) (upd i 45 (dsd (i 45)))) : w_LongTrainModel_drawnStrength i (eF σ) (eI k) Q := by
  have hkc := O.kc
  have hs := (O.kd k h0 h1).2.2
  unfold w_LongTrainModel_drawnStrength
  refine M_strengthOf h0 (by omega) ?_
  refine M_strengthOf h0 (by omega) ?_
  unfold w_LongTrainModel_draw
  unfold drw dsd at hq
  rw [upd_s]
  refine ⟨fun h => ?_, hq⟩
  rw [st4 hs.1 hs.2] at h
  have h8 : eI (ST σ k / 4 + 1) = eI 0 := h
  have := (eI_eq (by (first | exact B31_s (by omega) (by omega) | exact B31_of _ | (constructor <;> omega))) (by (first | exact B31_s (by omega) (by omega) | exact B31_of _ | (constructor <;> omega)))).mp h8
  omega
theorem C_drawn {i : F32} {st : Int} (h1 : 1 ≤ st) (h2 : st ≤ 999) {Q : Int32 → F32 → Prop} (hq : Q (drw (i 11) (eI st)) (upd i 11 (dsd (i 11)))) : w_Lives_drawnStrength i (eI st) Q := by
  unfold w_Lives_drawnStrength w_Lives_draw
  unfold drw dsd at hq
  rw [upd_s]
  have e := st4 h1 h2
  refine ⟨fun _ => ⟨fun h => ?_, hq⟩, fun h => ?_⟩
  · rw [e] at h
    have h8 : eI (st / 4 + 1) = eI 0 := h
    have := (eI_eq (by (first | exact B31_s (by omega) (by omega) | exact B31_of _ | (constructor <;> omega))) (by (first | exact B31_s (by omega) (by omega) | exact B31_of _ | (constructor <;> omega)))).mp h8
    omega
  · rw [e] at h
    have h9 : eI 0 < eI (st / 4 + 1) := (eI_lt (by (first | exact B31_s (by omega) (by omega) | exact B31_of _ | (constructor <;> omega))) (by (first | exact B31_s (by omega) (by omega) | exact B31_of _ | (constructor <;> omega)))).mpr (by omega)
    exact absurd h9 h
def bt0 (σ : Nat → Int) (s : Int32) : Nat → Int32 × (Nat → Int)
  | 0 => (s, fun _ => 0)
  | g + 1 => (dsd (bt0 σ s g).1, updI (bt0 σ s g).2 g (drw (bt0 σ s g).1 (eI (ST σ (frk σ 0 g)))).toInt)
def btX (σ : Nat → Int) (s : Int32) (g : Nat) : RW := ⟨g, frk σ 0, (bt0 σ s g).2, fun _ => 0, fun _ => 0, fun _ => 0⟩
noncomputable def bts (σ : Nat → Int) : Nat → Nat → RW → Int32 → Int
  | 0, _, _, _ => -1
  | f + 1, g, X, s => if ptL σ X ((g : Int) + 1) < X.n then (g : Int) + 1 else if 0 ≤ adN σ (hb σ g) ((g : Int) + 1) then bts σ f (g + 1) ((wrX σ X ((g : Int) + 1)).ins X.n (adN σ (hb σ g) ((g : Int) + 1)) (drw s (eI (ST σ (adN σ (hb σ g) ((g : Int) + 1))))).toInt) (dsd s) else bts σ f (g + 1) (wrX σ X ((g : Int) + 1)) s
noncomputable def betS (σ : Nat → Int) (s : Int32) : Int := bts σ ((σ 0).toNat - 1) 0 (btX σ s (frn σ 0)) (bt0 σ s (frn σ 0)).1
theorem M_betOf {σ : Nat → Int} (O : LOk σ) {i f w b st wo : F32} {s : Int32} {Q : Int32 → F32 → F32 → F32 → F32 → F32 → F32 → Prop} (hq : ∀ i' f' w' b' st' wo', Kp i i' → Q (eI (betS σ s)) i' f' w' b' st' wo') : w_LongTrainModel_betOf i (eF σ) f w b st wo s Q := by
  have hU := O.u
  have hkc := O.kc
  have hhc := O.hc
  have hfc := O.fc
  unfold w_LongTrainModel_betOf
  refine lg_LongTrainModel_betOf_12 (G := Nat) (fun g x i' w' st' wo' => g ≤ (σ 10).toNat ∧ x = eI g ∧ Kp i i' ∧ i' 45 = (bt0 σ s g).1 ∧ LR (btX σ s g) i' w' st' wo') (fun g => (σ 10).toNat - g) ?_ 0 ⟨by omega, rfl, (Kp.rf.u (by omega)).u (by omega), by rw [upd_n (by omega), upd_s]; rfl, ⟨upd_s, fun j hj => absurd hj (Nat.not_lt_zero _), fun j hj => absurd hj (Nat.not_lt_zero _), fun j hj => absurd hj (Nat.not_lt_zero _)⟩⟩
  rintro kr g x i' w' st' wo' ⟨hg, rfl, hk, h45, R⟩ hs
  unfold b_LongTrainModel_betOf_12
  (try simp only [eI_lit, eI_neg, eI_add, eI_sub, eI_mul, eF_ap, upd_eF])
  refine q_le (by (first | exact B31_s (by omega) (by omega) | exact B31_of _ | (constructor <;> omega))) (by (first | exact B31_s (by omega) (by omega) | exact B31_of _ | (constructor <;> omega))) (fun h => ?_) (fun h => ?_)
  · have eg : g = frn σ 0 := by show g = (σ 10).toNat; omega
    subst eg
    refine lg_LongTrainModel_betOf_60 (G := Nat) (fun g x i' f' w' b' st' wo' => ∃ (u n : Nat) (X : RW), g = (σ 0).toNat - u ∧ (u = 0 ∨ (u : Int) < σ 0) ∧ x = eI ((u : Int) + 1) ∧ n ≤ hb σ u ∧ X.n = (σ 10).toNat + n ∧ KOk σ X.k X.n ∧ LR X i' w' st' wo' ∧ Kp i i' ∧ bts σ ((σ 0).toNat - 1 - u) u X (i' 45) = betS σ s) (fun g => g) ?_ ((σ 0).toNat) ⟨0, 0, btX σ s (frn σ 0), by omega, Or.inl rfl, rfl, Nat.zero_le _, by show (σ 10).toNat = _; omega, KOk.fr O (by omega), R, hk, by rw [Nat.sub_zero, h45]; rfl⟩
    rintro kr g x i' f' w' b' st' wo' ⟨u, n, X, rfl, hu, rfl, hnb, hXn, hkk, R, hKp, he⟩ hstep
    have hbl := hb_le O (u : Int)
    have e5 : ((u + 1 : Nat) : Int) = (u : Int) + 1 := by omega
    have e7 : ((u + 1 : Nat) : Int) + 1 = (u : Int) + 1 + 1 := by omega
    unfold b_LongTrainModel_betOf_60
    rw [eF_ap]
    refine q_le (by (first | exact B31_s (by omega) (by omega) | exact B31_of _ | (constructor <;> omega))) (by (first | exact B31_s (by omega) (by omega) | exact B31_of _ | (constructor <;> omega))) (fun h => ?_) (fun h => ?_)
    · have e0 : (σ 0).toNat - 1 - u = 0 := by omega
      rw [e0] at he
      have he' : -1 = betS σ s := he
      rw [← he'] at hq
      exact hq _ _ _ _ _ _ hKp
    · have ef : (σ 0).toNat - 1 - u = ((σ 0).toNat - 1 - (u + 1)) + 1 := by omega
      rw [ef, bts] at he
      refine M_parts O R (by omega) hkk (by omega) (by omega) (fun hpt i2 f2 b2 hi2 => ?_) (fun hpt i2 f2 b2 wo2 hi2 R2 => ?_)
      · (first | refine z1T ?_ | refine z1N ?_)
        rw [if_pos hpt] at he
        rw [← he] at hq
        exact hq _ _ _ _ _ _ (fun k hk => by rw [hi2 k (by omega)]; exact hKp k hk)
      · (first | refine z0T ?_ | refine z0N ?_)
        rw [if_neg (by omega)] at he
        have k2 : Kp i i2 := fun k hk => by rw [hi2 k (by omega)]; exact hKp k hk
        have h45' : i2 45 = i' 45 := hi2 45 (by omega)
        have hmono := hb_mono O (a := (u : Int)) (b := ((u + 1 : Nat) : Int)) (by omega)
        refine M_haltOf O Eqv.rf (g := (u : Int)) (by omega) (by omega) ?_
        by_cases ha : 0 ≤ adN σ (hb σ u) ((u : Int) + 1)
        · obtain ⟨c1, c2, c3, c4⟩ := adN_hb O (by omega) ha
          rw [if_pos ha] at he ⊢
          have hadb := adN_b O (hb σ u) ((u : Int) + 1)
          refine q_lt (b := 0) (by (first | exact B31_s (by omega) (by omega) | exact B31_of _ | (constructor <;> omega))) (by (first | exact B31_s (by omega) (by omega) | exact B31_of _ | (constructor <;> omega))) (fun h => by omega) (fun _ => ?_)
          have e27 : i2 27 = eI X.n := R2.n
          rw [e27]
          refine q_le (a := 20) (by (first | exact B31_s (by omega) (by omega) | exact B31_of _ | (constructor <;> omega))) (by (first | exact B31_s (by omega) (by omega) | exact B31_of _ | (constructor <;> omega))) (fun h => by omega) (fun _ => ?_)
          refine M_addsOf (by omega) (by omega) ?_
          refine M_addsOf (by omega) (by omega) ?_
          rw [← c3]
          refine M_drawn O ha (by omega) ?_
          have R3 : LR (wrX σ X ((u : Int) + 1)) (upd i2 45 (dsd (i2 45))) w' st' wo2 := ⟨by rw [upd_n (by omega)]; exact R2.n, R2.k, R2.s, R2.w⟩
          rw [← eI_of (drw (i2 45) (eI (ST σ (adN σ (hb σ u) ((u : Int) + 1)))))]
          refine M_inserts R3 (by show X.n < 20; omega) (Nat.le_refl _) (fun w3 st3 wo3 R4 => ?_)
          (try simp only [eI_lit, eI_neg, eI_add, eI_sub, eI_mul, eF_ap, upd_eF])
          refine hstep ((σ 0).toNat - (u + 1)) _ _ _ _ _ _ _ (by omega) ⟨u + 1, n + 1, _, rfl, Or.inr (by omega), by rw [e7], ?_, ?_, KOk.ins (X := wrX σ X ((u : Int) + 1)) hkk (Nat.le_refl _) ha (by omega), R4, (k2.u (by omega)).u (by omega), ?_⟩
          · rw [e5, c4]; omega
          · show X.n + 1 = _; omega
          · rw [upd_n (by omega), upd_s, h45']; exact he
        · rw [if_neg ha] at he ⊢
          refine q_lt (b := 0) (by (first | exact B31_s (by omega) (by omega) | exact B31_of _ | (constructor <;> omega))) (by (first | exact B31_s (by omega) (by omega) | exact B31_of _ | (constructor <;> omega))) (fun _ => ?_) (fun h => by omega)
          (try simp only [eI_lit, eI_neg, eI_add, eI_sub, eI_mul, eF_ap, upd_eF])
          exact hstep ((σ 0).toNat - (u + 1)) _ _ _ _ _ _ _ (by omega) ⟨u + 1, n, wrX σ X ((u : Int) + 1), rfl, Or.inr (by omega), by rw [e7], by omega, hXn, hkk, R2, k2, by rw [h45']; exact he⟩
  · have ht := O.tr g (by omega)
    have e1 : (475 + (g : Int)).toNat = 475 + g := by omega
    refine And.intro (eI_in (by omega) (by omega) (by omega)) ?_; refine And.intro (eI_in (by omega) (by omega) (by omega)) ?_; (try simp (disch := omega) only [eI_cl, Int.toNat_natCast])
    rw [e1]
    refine M_drawn O ht.1 ht.2 ?_
    rw [h45, ← eI_of (drw (bt0 σ s g).1 (eI (ST σ (σ (475 + g)))))]
    have R2 : LR (btX σ s g) (upd i' 45 (dsd (bt0 σ s g).1)) w' st' wo' := ⟨by rw [upd_n (by omega)]; exact R.n, R.k, R.s, R.w⟩
    refine M_inserts R2 (by show g < 20; omega) (Nat.le_refl _) (fun w2 st2 wo2 R3 => ?_)
    refine hs (g + 1) _ _ _ _ _ (by omega) ⟨by omega, by congr 1, (hk.u (by omega)).u (by omega), by rw [upd_n (by omega), upd_s]; rfl, LR.congr ?_ R3⟩
    refine ⟨rfl, fun j hj => ?_⟩
    have hj' : j < g + 1 := hj
    show insF (frk σ 0) g (σ (475 + g)) j = frk σ 0 j ∧ insF (bt0 σ s g).2 g (drw (bt0 σ s g).1 (eI (ST σ (σ (475 + g))))).toInt j = updI (bt0 σ s g).2 g (drw (bt0 σ s g).1 (eI (ST σ (frk σ 0 g)))).toInt j ∧ insF (fun _ => (0 : Int)) g 0 j = 0 ∧ insF (fun _ => (0 : Int)) g 0 j = 0 ∧ insF (fun _ => (0 : Int)) g 0 j = 0
    by_cases hjn : j = g
    · subst hjn; simp only [insF_eq, updI_s]; exact ⟨rfl, rfl, trivial, trivial, trivial⟩
    · have hlt : j < g := by omega
      simp only [insF_lt hlt, updI_n _ hjn]; exact ⟨trivial, trivial, trivial, trivial, trivial⟩
theorem M_bet {σ : Nat → Int} (O : LOk σ) {i f w b st wo : F32} {s : Int32} {Q : Int32 → F32 → F32 → F32 → F32 → F32 → F32 → Prop} (hq : ∀ i' f' w' b' st' wo', KP i i' → Q (eI (betS σ s)) i' f' w' b' st' wo') : w_LongTrainModel_bet i (eF σ) f w b st wo s Q := by
  unfold w_LongTrainModel_bet
  exact M_betOf O (fun i' f' w' b' st' wo' k => hq _ _ _ _ _ _ k.P)
/-! the class -/
theorem RowR.str {σ : Nat → Int} {X : RW} {head : Int} {nh : Nat} {i K L W S E P H : F32} (r : RowR σ X head nh i K L W S E P H) {m : Nat} {v : Int32} : RowR σ ⟨X.n, X.k, updI X.s m v.toInt, X.w, X.p, X.h⟩ head nh i K L W (upd S m v) E P H := by
  refine ⟨r.sz, r.tot, r.hd, r.nx, r.k, r.l, r.w, fun j hj => ?_, r.e, r.p, r.h⟩
  show _ = eI (updI X.s m v.toInt j)
  by_cases e : j = m
  · subst e; rw [upd_s, updI_s, eI_of]
  · rw [upd_n e, updI_n _ e]; exact r.s j hj
theorem C_bet {σ : Nat → Int} (O : LOk σ) {ilf i K L W S E P H b : F32} {il gl hl fl d : F32} (I : LnI σ il) (G : LnG σ gl) (HH : LnH σ hl) (FF : LnF σ fl) (D : LnK σ d) {s : Int32} {Q : Int32 → QR10} (hq : ∀ ilf' i' K' L' W' S' E' P' H' b', ilf' 3 = ilf 3 → Q (eI (betS σ s)) ilf' i' K' L' W' S' E' P' H' b') : w_LongTrain_bet ilf il i hl fl K L W S E P H d gl b s Q := by
  have hU := O.u
  have hkc := O.kc
  have hhc := O.hc
  have hfc := O.fc
  unfold w_LongTrain_bet w_Lives_betHead
  refine R_begin0 O I HH FF D (fun i1 K1 L1 W1 S1 E1 P1 H1 r1 => ?_)
  have e8 : i1 8 = eI (frn σ 0) := r1.sz
  have hfn : frn σ 0 = (σ 10).toNat := rfl
  have hko : KOk σ (frk σ 0) (frn σ 0) := KOk.fr O (by omega)
  have r0 : RowR σ ⟨frn σ 0, frk σ 0, fun j => if j < 0 then (bt0 σ s 0).2 j else ST σ (frk σ 0 j), fun _ => 0, fun _ => 0, fun _ => 0⟩ 0 (hb σ 0) i1 K1 L1 W1 S1 E1 P1 H1 := by
    refine RowR.congr ?_ r1
    refine ⟨rfl, fun j hj => ⟨rfl, ?_, rfl, rfl, rfl⟩⟩
    show ST σ (frk σ 0 j) = (if j < 0 then (bt0 σ s 0).2 j else ST σ (frk σ 0 j))
    rw [if_neg (Nat.not_lt_zero _)]
  refine lg_Lives_betHead_20 (G := Nat) (fun g x ilf' S' => g ≤ frn σ 0 ∧ x = eI g ∧ ilf' 3 = ilf 3 ∧ ilf' 11 = (bt0 σ s g).1 ∧ RowR σ ⟨frn σ 0, frk σ 0, fun j => if j < g then (bt0 σ s g).2 j else ST σ (frk σ 0 j), fun _ => 0, fun _ => 0, fun _ => 0⟩ 0 (hb σ 0) i1 K1 L1 W1 S' E1 P1 H1) (fun g => frn σ 0 - g) ?_ 0 ⟨by omega, rfl, by rw [upd_n (by omega)], by rw [upd_s]; rfl, r0⟩
  rintro kr g x ilf' S' ⟨hg, rfl, h3, h11, r⟩ hs
  unfold b_Lives_betHead_20
  rw [e8]
  refine q_le (by (first | exact B31_s (by omega) (by omega) | exact B31_of _ | (constructor <;> omega))) (by (first | exact B31_s (by omega) (by omega) | exact B31_of _ | (constructor <;> omega))) (fun h => ?_) (fun h => ?_)
  · have eg : g = frn σ 0 := by omega
    subst eg
    have r2 : RowR σ (btX σ s (frn σ 0)) 0 (hb σ 0) i1 K1 L1 W1 S' E1 P1 H1 := by
      refine RowR.congr ?_ r
      refine ⟨rfl, fun j hj => ⟨rfl, ?_, rfl, rfl, rfl⟩⟩
      have hj' : j < frn σ 0 := hj
      show (if j < frn σ 0 then (bt0 σ s (frn σ 0)).2 j else ST σ (frk σ 0 j)) = (bt0 σ s (frn σ 0)).2 j
      rw [if_pos hj']
    refine lg_Lives_betHead_56 (G := Nat) (fun g x ilf' i' K' L' W' S' E' P' H' b' => ∃ (u n : Nat) (X : RW), g = (σ 0).toNat - u ∧ (u = 0 ∨ (u : Int) < σ 0) ∧ x = eI ((u : Int) + 1) ∧ n ≤ hb σ u ∧ X.n = (σ 10).toNat + n ∧ KOk σ X.k X.n ∧ (∀ j, j < X.n → X.p j = 0) ∧ RowR σ X u (hb σ u) i' K' L' W' S' E' P' H' ∧ ilf' 3 = ilf 3 ∧ bts σ ((σ 0).toNat - 1 - u) u X (ilf' 11) = betS σ s) (fun g => g) ?_ ((σ 0).toNat) ⟨0, 0, btX σ s (frn σ 0), by omega, Or.inl rfl, rfl, Nat.zero_le _, by show (σ 10).toNat = _; omega, hko, fun _ _ => rfl, r2, h3, by rw [Nat.sub_zero, h11]; rfl⟩
    rintro kr g x ilf' i' K' L' W' S' E' P' H' b' ⟨u, n, X, rfl, hu, rfl, hnb, hXn, hkk, hp0, r, h3, he⟩ hstep
    have hbl := hb_le O (u : Int)
    have e5 : ((u + 1 : Nat) : Int) = (u : Int) + 1 := by omega
    have e7 : ((u + 1 : Nat) : Int) + 1 = (u : Int) + 1 + 1 := by omega
    unfold b_Lives_betHead_56
    rw [I.u]
    refine q_le (by (first | exact B31_s (by omega) (by omega) | exact B31_of _ | (constructor <;> omega))) (by (first | exact B31_s (by omega) (by omega) | exact B31_of _ | (constructor <;> omega))) (fun h => ?_) (fun h => ?_)
    · have e0 : (σ 0).toNat - 1 - u = 0 := by omega
      rw [e0] at he
      have he' : -1 = betS σ s := he
      rw [← he'] at hq
      exact hq _ _ _ _ _ _ _ _ _ _ h3
    · have ef : (σ 0).toNat - 1 - u = ((σ 0).toNat - 1 - (u + 1)) + 1 := by omega
      rw [ef, bts] at he
      refine C_holdsAt O r I G hkk (by omega) hp0 (by omega) (by omega) (fun hpt i2 b2 r2 => ?_) (fun hpt i2 b2 E2 r2 => ?_)
      · (first | refine z0T ?_ | refine z0N ?_)
        rw [if_pos hpt] at he
        rw [← he] at hq
        exact hq _ _ _ _ _ _ _ _ _ _ h3
      · (first | refine z1T ?_ | refine z1N ?_)
        rw [if_neg (by omega)] at he
        have hmono := hb_mono O (a := (u : Int)) (b := ((u + 1 : Nat) : Int)) (by omega)
        have hadb := adN_b O (hb σ u) ((u : Int) + 1)
        have e82 : i2 8 = eI X.n := r2.sz
        rw [e82]
        refine R_takeOn O r2 I HH D (by (first | exact B31_s (by omega) (by omega) | exact B31_of _ | (constructor <;> omega))) hbl (by show X.n < 20; omega) (fun i3 K3 L3 W3 S3 E3 P3 H3 r3 => ?_)
        rw [hb_next O (by omega)] at r3
        by_cases ha : 0 ≤ adN σ (hb σ u) ((u : Int) + 1)
        · obtain ⟨c1, c2, c3, c4⟩ := adN_hb O (by omega) ha
          rw [if_pos ha] at he
          unfold tkX at r3
          rw [if_pos ha] at r3
          have e83 : i3 8 = eI ((X.n + 1 : Nat) : Int) := r3.sz
          rw [e83]
          refine q_le (by (first | exact B31_s (by omega) (by omega) | exact B31_of _ | (constructor <;> omega))) (by (first | exact B31_s (by omega) (by omega) | exact B31_of _ | (constructor <;> omega))) (fun h => by omega) (fun _ => ?_)
          have hs3 : S3 X.n = eI (ST σ (adN σ (hb σ u) ((u : Int) + 1))) := by
            rw [r3.s X.n (by show X.n < X.n + 1; omega)]
            show eI (insF X.s X.n _ X.n) = _
            rw [insF_eq]
          have hsb := (O.kd _ ha (by omega)).2.2
          refine And.intro (eI_in (by omega) (by omega) (by omega)) ?_; (try simp (disch := omega) only [eI_cl, Int.toNat_natCast])
          rw [hs3]
          refine C_drawn hsb.1 hsb.2 ?_
          refine And.intro (eI_in (by omega) (by omega) (by omega)) ?_
          (try simp only [eI_lit, eI_neg, eI_add, eI_sub, eI_mul, eF_ap, upd_eF])
          have r4 := r3.str (m := X.n) (v := drw (ilf' 11) (eI (ST σ (adN σ (hb σ u) ((u : Int) + 1)))))
          have r5 : RowR σ ((wrX σ X ((u : Int) + 1)).ins X.n (adN σ (hb σ u) ((u : Int) + 1)) (drw (ilf' 11) (eI (ST σ (adN σ (hb σ u) ((u : Int) + 1))))).toInt) ((u + 1 : Nat) : Int) (hb σ ((u + 1 : Nat) : Int)) i3 K3 L3 W3 (upd S3 X.n (drw (ilf' 11) (eI (ST σ (adN σ (hb σ u) ((u : Int) + 1)))))) E3 P3 H3 := by
            rw [e5]
            refine RowR.congr ?_ r4
            refine ⟨rfl, fun j hj => ⟨rfl, ?_, rfl, rfl, rfl⟩⟩
            have hj' : j < X.n + 1 := hj
            show updI (insF X.s X.n _) X.n _ j = insF X.s X.n _ j
            by_cases e : j = X.n
            · subst e; rw [updI_s, insF_eq]
            · rw [updI_n _ e, insF_lt (by omega), insF_lt (by omega)]
          refine hstep ((σ 0).toNat - (u + 1)) _ _ _ _ _ _ _ _ _ _ _ (by omega) ⟨u + 1, n + 1, _, rfl, Or.inr (by omega), by rw [e7], ?_, ?_, KOk.ins (X := wrX σ X ((u : Int) + 1)) hkk (Nat.le_refl _) ha (by omega), ins_p (X := wrX σ X ((u : Int) + 1)) (Nat.le_refl _) hp0, r5, by rw [upd_n (by omega)]; exact h3, ?_⟩
          · rw [e5, c4]; omega
          · show X.n + 1 = _; omega
          · rw [upd_s]; exact he
        · rw [if_neg ha] at he
          unfold tkX at r3
          rw [if_neg ha] at r3
          have e83 : i3 8 = eI X.n := r3.sz
          rw [e83]
          refine q_le (by (first | exact B31_s (by omega) (by omega) | exact B31_of _ | (constructor <;> omega))) (by (first | exact B31_s (by omega) (by omega) | exact B31_of _ | (constructor <;> omega))) (fun _ => ?_) (fun h => by omega)
          (try simp only [eI_lit, eI_neg, eI_add, eI_sub, eI_mul, eF_ap, upd_eF])
          have r5 : RowR σ (wrX σ X ((u : Int) + 1)) ((u + 1 : Nat) : Int) (hb σ ((u + 1 : Nat) : Int)) i3 K3 L3 W3 S3 E3 P3 H3 := by rw [e5]; exact r3
          exact hstep ((σ 0).toNat - (u + 1)) _ _ _ _ _ _ _ _ _ _ _ (by omega) ⟨u + 1, n, wrX σ X ((u : Int) + 1), rfl, Or.inr (by omega), by rw [e7], by omega, hXn, hkk, hp0, r5, h3, he⟩
  · refine And.intro (eI_in (by omega) (by omega) (by omega)) ?_; (try simp (disch := omega) only [eI_cl, Int.toNat_natCast])
    have hsb := st_b O hko (j := g) (by omega)
    have hSg : S' g = eI (ST σ (frk σ 0 g)) := by
      rw [r.s g (by show g < frn σ 0; omega)]
      show eI (if g < g then _ else _) = _
      rw [if_neg (Nat.lt_irrefl _)]
    rw [hSg]
    refine C_drawn hsb.1 hsb.2 ?_
    refine And.intro (eI_in (by omega) (by omega) (by omega)) ?_
    rw [h11]
    refine hs (g + 1) _ _ _ (by omega) ⟨by omega, by (try simp only [eI_lit, eI_neg, eI_add, eI_sub, eI_mul, eF_ap, upd_eF]); congr 1, by rw [upd_n (by omega)]; exact h3, by rw [upd_s]; rfl, ?_⟩
    refine RowR.congr ?_ (r.str (m := g) (v := drw (bt0 σ s g).1 (eI (ST σ (frk σ 0 g)))))
    refine ⟨rfl, fun j hj => ⟨rfl, ?_, rfl, rfl, rfl⟩⟩
    show updI (fun j => if j < g then (bt0 σ s g).2 j else ST σ (frk σ 0 j)) g _ j = if j < g + 1 then updI (bt0 σ s g).2 g _ j else ST σ (frk σ 0 j)
    by_cases e : j = g
    · subst e; rw [updI_s, if_pos (by omega), updI_s]
    · rw [updI_n _ e]
      by_cases hlt : j < g
      · rw [if_pos hlt, if_pos (by omega), updI_n _ e]
      · rw [if_neg hlt, if_neg (by omega)]
