/-! strain, squeeze -/
def wst (s : Int) (o : Option (Int × Int × Int)) (f h c : Int) : Option (Int × Int × Int) := match o with
  | none => some (f, h, c)
  | some p => if s * p.1 < s * f then some (f, h, c) else some p
def win (s : Int) (B : Nat → Int) (h : Int) (o : Option (Int × Int × Int)) : Nat → Option (Int × Int × Int)
  | 0 => o
  | n + 1 => wst s (win s B h o n) (B n) h n
def wout (σ : Nat → Int) (s a : Int) : Nat → Option (Int × Int × Int)
  | 0 => none
  | m + 1 => win s (fB σ (a + m)) (a + m) (wout σ s a m) (fN σ (a + m))
def WR (o : Option (Int × Int × Int)) (x f0 f1 f2 : Int32) : Prop := match o with
  | none => x = 0
  | some p => x = 1 ∧ f0 = eI p.1 ∧ f1 = eI p.2.1 ∧ f2 = eI p.2.2 ∧ -70000 ≤ p.1 ∧ p.1 ≤ 70000
theorem WR.flag {o : Option (Int × Int × Int)} {x f0 f1 f2 : Int32} (h : WR o x f0 f1 f2) : x = 0 ∨ x = 1 := by
  cases o with
  | none => exact Or.inl h
  | some p => exact Or.inr h.1
theorem M_strained {σ} (O : LOk σ) {i w f b wo : F32} {x y s : Int} (hx : 0 ≤ x) (hxy : x ≤ y) (hy : y < σ 0) (hs : s = 1 ∨ s = -1) {Q : Int32 → F32 → F32 → F32 → F32 → F32 → Prop} (hq : ∀ z i' w' f' b' wo', Kp i i' → WR (wout σ s x (y - x + 1).toNat) z (wo' 0) (wo' 1) (wo' 2) → Q z i' w' f' b' wo') : w_LongTrainModel_strained i (eF σ) w f b wo (eI x) (eI y) (eI s) Q := by
  have hu := O.u
  unfold w_LongTrainModel_strained
  refine lg_LongTrainModel_strained_6 (G := Nat) (fun g x4 x5 i' w' f' b' wo' => x + g ≤ y + 1 ∧ x5 = eI (x + g) ∧ Kp i i' ∧ WR (wout σ s x g) x4 (wo' 0) (wo' 1) (wo' 2)) (fun g => (y - x + 1).toNat - g) ?_ 0 ⟨by omega, by congr 1; omega, Kp.rf, rfl⟩
  rintro kr g x4 x5 i' w' f' b' wo' ⟨hg, rfl, hk, hW⟩ hstep
  unfold b_LongTrainModel_strained_6
  refine q_lt (by (first | exact B31_s (by omega) (by omega) | exact B31_of _ | (constructor <;> omega))) (by (first | exact B31_s (by omega) (by omega) | exact B31_of _ | (constructor <;> omega))) (fun h => ?_) (fun h => ?_)
  · have e : (y - x + 1).toNat = g := by omega
    rw [e] at hq
    exact ⟨hW.flag, hq _ _ _ _ _ _ hk hW⟩
  · refine M_freeAt O (by omega) (by omega) (fun i2 w2 f2 b2 k2 hn hl hw hf hb => ?_)
    have h18 := fN_18 O (x + g)
    refine lg_LongTrainModel_strained_21 (G := Nat) (fun m x4 x6 wo' => m ≤ fN σ (x + g) ∧ x6 = eI m ∧ WR (win s (fB σ (x + g)) (x + g) (wout σ s x g) m) x4 (wo' 0) (wo' 1) (wo' 2)) (fun m => fN σ (x + g) - m) ?_ 0 ⟨by omega, rfl, hW⟩
    rintro kr2 m x4 x6 wo2 ⟨hm, rfl, hW⟩ hs2
    unfold b_LongTrainModel_strained_21
    rw [hn]
    refine q_le (by (first | exact B31_s (by omega) (by omega) | exact B31_of _ | (constructor <;> omega))) (by (first | exact B31_s (by omega) (by omega) | exact B31_of _ | (constructor <;> omega))) (fun h => ?_) (fun h => ?_)
    · have e : m = fN σ (x + g) := by omega
      subst e
      (try simp only [eI_lit, eI_neg, eI_add, eI_sub, eI_mul, eF_ap, upd_eF])
      exact hstep (g + 1) _ _ _ _ _ _ _ (by omega) ⟨by omega, by congr 1; omega, hk.tr k2, hW⟩
    · have hbd := fB_bd O (h := x + g) (by omega) (j := m) (by omega)
      have take : j_LongTrainModel_strained_58 b2 wo2 (eI (x + g)) (eI m) kr2 = (vp_in (eI m) 20 ∧ kr2 1 (eI m + 1) (upd (upd (upd wo2 0 (b2 (eI m).toNatClampNeg)) 1 (eI (x + g))) 2 (eI m))) := rfl
      have take2 : win s (fB σ (x + g)) (x + g) (wout σ s x g) (m + 1) = some (fB σ (x + g) m, x + g, (m : Int)) → j_LongTrainModel_strained_58 b2 wo2 (eI (x + g)) (eI m) kr2 := fun he => by
        rw [take]
        refine And.intro (eI_in (by omega) (by omega) (by omega)) ?_; (try simp (disch := omega) only [eI_cl, Int.toNat_natCast])
        rw [hb m (by omega)]
        (try simp only [eI_lit, eI_neg, eI_add, eI_sub, eI_mul, eF_ap, upd_eF])
        refine hs2 (m + 1) _ _ _ (by omega) ⟨by omega, by congr 1, ?_⟩
        rw [he]
        refine ⟨rfl, ?_, ?_, ?_, hbd⟩
        · rw [upd_n (by omega), upd_n (by omega), upd_s]
        · rw [upd_n (by omega), upd_s]
        · rw [upd_s]
      cases ho : win s (fB σ (x + g)) (x + g) (wout σ s x g) m with
      | none =>
        rw [ho] at hW
        have e : x4 = 0 := hW
        subst e
        (first | refine z0T ?_ | refine z0N ?_)
        exact take2 (by rw [win, ho]; rfl)
      | some p =>
        rw [ho] at hW
        obtain ⟨e, e0, e1, e2, hl, hh⟩ := hW
        subst e
        (first | refine z1T ?_ | refine z1N ?_)
        refine And.intro (eI_in (by omega) (by omega) (by omega)) ?_; (try simp (disch := omega) only [eI_cl, Int.toNat_natCast])
        rw [e0, hb m (by omega)]
        (try simp only [eI_lit, eI_neg, eI_add, eI_sub, eI_mul, eF_ap, upd_eF])
        have e5 : ((y - x + 1).toNat - g) = ((y - x + 1).toNat - g) := rfl
        refine q_lt (by rcases hs with rfl | rfl <;> (first | exact B31_s (by omega) (by omega) | exact B31_of _ | (constructor <;> omega))) (by rcases hs with rfl | rfl <;> (first | exact B31_s (by omega) (by omega) | exact B31_of _ | (constructor <;> omega))) (fun h2 => ?_) (fun h2 => ?_)
        · exact take2 (by rw [win, ho]; show (if s * p.1 < s * _ then _ else _) = _; rw [if_pos h2])
        · refine hs2 (m + 1) _ _ _ (by omega) ⟨by omega, by congr 1, ?_⟩
          have e6 : win s (fB σ (x + g)) (x + g) (wout σ s x g) (m + 1) = some p := by rw [win, ho]; show (if s * p.1 < s * _ then _ else _) = _; rw [if_neg (by omega)]
          rw [e6]
          exact ⟨rfl, e0, e1, e2, hl, hh⟩
def strS (σ : Nat → Int) (s x y w : Int) : Int := if 0 ≤ x ∧ x ≤ y ∧ y < σ 0 then (match wout σ s x (y - x + 1).toNat with
  | none => -1
  | some p => if w = 0 then p.1 else if w = 1 then p.2.1 else p.2.2) else -1
theorem M_throwsIf1 {i : F32} {Q : Int32 → F32 → Prop} (h : Q 1 (upd i 0 1)) : w_LongTrainModel_throwsIf i 1 Q := by
  unfold w_LongTrainModel_throwsIf
  (first | refine z1T ?_ | refine z1N ?_)
  exact ⟨Or.inr rfl, h⟩
theorem M_throwsIf0 {i : F32} {Q : Int32 → F32 → Prop} (h : Q 0 (upd i 0 0)) : w_LongTrainModel_throwsIf i 0 Q := by
  unfold w_LongTrainModel_throwsIf
  (first | refine z0T ?_ | refine z0N ?_)
  exact ⟨Or.inl rfl, h⟩
theorem Kp.z {i i' : F32} {x : Int32} (h : Kp (upd i 0 x) i') : i' 0 = x := by rw [h 0 (by omega), upd_s]
theorem strainA {σ : Nat → Int} {s x y v : Int} {z f0 f1 f2 : Int32} {wo : F32} (hW : WR (wout σ s x (y - x + 1).toNat) z (wo 0) (wo 1) (wo 2)) (hc : 0 ≤ x ∧ x ≤ y ∧ y < σ 0) (hv : 0 ≤ v) (hv2 : v ≤ 2) {A : Int32 → Prop} (h : A (eI (strS σ s x y v))) : ((z = 0) → A (-1)) ∧ (¬ (z = 0) → vp_in (eI v) 3 ∧ A (wo (eI v).toNatClampNeg)) := by
  unfold strS at h
  rw [if_pos hc] at h
  cases ho : wout σ s x (y - x + 1).toNat with
  | none =>
    rw [ho] at hW h
    have e : z = 0 := hW
    subst e
    (first | refine z0T ?_ | refine z0N ?_); exact h
  | some p =>
    rw [ho] at hW h
    obtain ⟨e, e0, e1, e2, _, _⟩ := hW
    subst e
    (first | refine z1T ?_ | refine z1N ?_)
    refine And.intro (eI_in (by omega) (by omega) (by omega)) ?_; (try simp (disch := omega) only [eI_cl, Int.toNat_natCast])
    have : v = 0 ∨ v = 1 ∨ v = 2 := by omega
    rcases this with rfl | rfl | rfl
    · show A (wo 0); rw [e0]; exact h
    · show A (wo 1); rw [e1]; exact h
    · show A (wo 2); rw [e2]; exact h
theorem M_strain {σ} (O : LOk σ) {i w f b wo : F32} {x y v : Int} (hx : B31 x) (hy : B31 y) (hv : B31 v) {Q : Int32 → F32 → F32 → F32 → F32 → F32 → Prop} (h0 : ¬ (0 ≤ v ∧ v ≤ 2) → ∀ z i' w' f' b' wo', KP i i' → i' 0 = 1 → Q z i' w' f' b' wo') (hq : 0 ≤ v ∧ v ≤ 2 → ∀ i' w' f' b' wo', KP i i' → i' 0 = 0 → Q (eI (strS σ 1 x y v)) i' w' f' b' wo') : w_LongTrainModel_strain i (eF σ) w f b wo (eI x) (eI y) (eI v) Q := by
  unfold w_LongTrainModel_strain
  (try simp only [eI_lit, eI_neg, eI_add, eI_sub, eI_mul, eF_ap, upd_eF])
  refine M_isIn hv (by (first | exact B31_s (by omega) (by omega) | exact B31_of _ | (constructor <;> omega))) (by (first | exact B31_s (by omega) (by omega) | exact B31_of _ | (constructor <;> omega))) (fun a a2 => ?_) (fun a => ?_)
  · (first | refine z1T ?_ | refine z1N ?_)
    unfold j_LongTrainModel_strain_15
    refine M_throwsIf0 ?_
    (first | refine z0T ?_ | refine z0N ?_)
    have hq' := hq ⟨a, a2⟩
    have no : ¬ (0 ≤ x ∧ x ≤ y ∧ y < σ 0) → Q (-1) (upd i 0 0) w f b wo := fun hn => by
      have := hq' (upd i 0 0) w f b wo KP.u0 upd_s
      unfold strS at this
      rw [if_neg hn] at this
      exact this
    refine M_isUnit O hx (fun c d => ?_) (fun c => ?_)
    · (first | refine z1T ?_ | refine z1N ?_)
      refine M_isUnit O hy (fun e g => ?_) (fun e => ?_)
      · (first | refine z1T ?_ | refine z1N ?_)
        refine q_lt hy hx (fun h => no (by omega)) (fun h => ?_)
        refine M_strained O c h g (Or.inl rfl) (fun z i' w' f' b' wo' k hW => ?_)
        exact strainA (f0 := 0) (f1 := 0) (f2 := 0) hW ⟨c, h, g⟩ a a2 (A := fun z => Q z i' w' f' b' wo') (hq' _ _ _ _ _ k.P k.z)
      · (first | refine z0T ?_ | refine z0N ?_); exact no (by omega)
    · (first | refine z0T ?_ | refine z0N ?_); exact no (by omega)
  · (first | refine z0T ?_ | refine z0N ?_)
    unfold j_LongTrainModel_strain_15
    refine M_throwsIf1 ?_
    (first | refine z1T ?_ | refine z1N ?_)
    exact h0 a _ _ _ _ _ _ KP.u0 upd_s
theorem M_squeeze {σ} (O : LOk σ) {i w f b wo : F32} {x y v : Int} (hx : B31 x) (hy : B31 y) (hv : B31 v) {Q : Int32 → F32 → F32 → F32 → F32 → F32 → Prop} (h0 : ¬ (0 ≤ v ∧ v ≤ 2) → ∀ z i' w' f' b' wo', KP i i' → i' 0 = 1 → Q z i' w' f' b' wo') (hq : 0 ≤ v ∧ v ≤ 2 → ∀ i' w' f' b' wo', KP i i' → i' 0 = 0 → Q (eI (strS σ (-1) x y v)) i' w' f' b' wo') : w_LongTrainModel_squeeze i (eF σ) w f b wo (eI x) (eI y) (eI v) Q := by
  unfold w_LongTrainModel_squeeze
  (try simp only [eI_lit, eI_neg, eI_add, eI_sub, eI_mul, eF_ap, upd_eF])
  refine M_isIn hv (by (first | exact B31_s (by omega) (by omega) | exact B31_of _ | (constructor <;> omega))) (by (first | exact B31_s (by omega) (by omega) | exact B31_of _ | (constructor <;> omega))) (fun a a2 => ?_) (fun a => ?_)
  · (first | refine z1T ?_ | refine z1N ?_)
    unfold j_LongTrainModel_squeeze_15
    refine M_throwsIf0 ?_
    (first | refine z0T ?_ | refine z0N ?_)
    have hq' := hq ⟨a, a2⟩
    have no : ¬ (0 ≤ x ∧ x ≤ y ∧ y < σ 0) → Q (-1) (upd i 0 0) w f b wo := fun hn => by
      have := hq' (upd i 0 0) w f b wo KP.u0 upd_s
      unfold strS at this
      rw [if_neg hn] at this
      exact this
    refine M_isUnit O hx (fun c d => ?_) (fun c => ?_)
    · (first | refine z1T ?_ | refine z1N ?_)
      refine M_isUnit O hy (fun e g => ?_) (fun e => ?_)
      · (first | refine z1T ?_ | refine z1N ?_)
        refine q_lt hy hx (fun h => no (by omega)) (fun h => ?_)
        refine M_strained O (s := -1) c h g (Or.inr rfl) (fun z i' w' f' b' wo' k hW => ?_)
        exact strainA (f0 := 0) (f1 := 0) (f2 := 0) hW ⟨c, h, g⟩ a a2 (A := fun z => Q z i' w' f' b' wo') (hq' _ _ _ _ _ k.P k.z)
      · (first | refine z0T ?_ | refine z0N ?_); exact no (by omega)
    · (first | refine z0T ?_ | refine z0N ?_); exact no (by omega)
  · (first | refine z0T ?_ | refine z0N ?_)
    unfold j_LongTrainModel_squeeze_15
    refine M_throwsIf1 ?_
    (first | refine z1T ?_ | refine z1N ?_)
    exact h0 a _ _ _ _ _ _ KP.u0 upd_s
/-! the class -/
theorem C_findBorne {σ} (O : LOk σ) {fi i K L W S E P H b : F32} {il gl hl fl d : F32} (I : LnI σ il) (G : LnG σ gl) (HH : LnH σ hl) (FF : LnF σ fl) (D : LnK σ d) {x y : Int} (hx : 0 ≤ x) (hxy : x ≤ y) (hy : y < σ 0) {s : Int} {m : Int32} (hs : (s = 1 ∧ m = 1) ∨ (s = -1 ∧ m = 0)) {Q : Int32 → F32 → QR9} (hq : ∀ z fi' i' K' L' W' S' E' P' H' b', fi' 9 = fi 9 → WR (wout σ s x (y - x + 1).toNat) z (fi' 1) (fi' 2) (fi' 3) → Q z fi' i' K' L' W' S' E' P' H' b') : w_Free_findBorne fi il i hl fl K L W S E P H d gl b (eI x) (eI y) m Q := by
  have hu := O.u
  unfold w_Free_findBorne
  refine R_travel O I HH FF D hx (by omega) (fun i' K' L' W' S' E' P' H' r => ?_)
  refine lg_Free_findBorne_15 (G := Nat) (fun g x5 x6 fi' i' K' L' W' S' E' P' H' b' => x + g ≤ y + 1 ∧ x6 = eI (x + g) ∧ fi' 9 = fi 9 ∧ (∃ q, RowR σ (FX σ (hz σ (x + g))) q (hz σ (x + g)) i' K' L' W' S' E' P' H') ∧ WR (wout σ s x g) x5 (fi' 1) (fi' 2) (fi' 3)) (fun g => (y - x + 1).toNat - g) ?_ 0 ⟨by omega, by congr 1; omega, rfl, ⟨x, by simpa using r⟩, rfl⟩
  rintro kr g x5 x6 fi' i' K' L' W' S' E' P' H' b' ⟨hg, rfl, h9, ⟨q, r⟩, hW⟩ hstep
  unfold b_Free_findBorne_15
  refine q_lt (by (first | exact B31_s (by omega) (by omega) | exact B31_of _ | (constructor <;> omega))) (by (first | exact B31_s (by omega) (by omega) | exact B31_of _ | (constructor <;> omega))) (fun h => ?_) (fun h => ?_)
  · have e : (y - x + 1).toNat = g := by omega
    rw [e] at hq
    exact ⟨hW.flag, hq _ _ _ _ _ _ _ _ _ _ _ h9 hW⟩
  · have r1 := r.head (x + g)
    refine R_measF O r1 I G (by omega) (by omega) (fun b2 hb => ?_)
    have h18 := fN_18 O (x + g)
    have en := (fr_hz O (h := x + g) (by omega)).1
    refine lg_Free_findBorne_42 (G := Nat) (fun m x5 x7 fi' => m ≤ fN σ (x + g) ∧ x7 = eI m ∧ fi' 9 = fi 9 ∧ WR (win s (fB σ (x + g)) (x + g) (wout σ s x g) m) x5 (fi' 1) (fi' 2) (fi' 3)) (fun m => fN σ (x + g) - m) ?_ 0 ⟨by omega, rfl, h9, hW⟩
    rintro kr2 m2 x5 x7 fi2 ⟨hm, rfl, h9, hW⟩ hs2
    unfold b_Free_findBorne_42
    have hsz : upd i' 10 (eI (x + g)) 8 = eI (fN σ (x + g)) := by rw [r1.sz]; show eI (frn σ (hz σ (x + g)) : Nat) = _; rw [en]; rfl
    rw [hsz]
    refine q_le (by (first | exact B31_s (by omega) (by omega) | exact B31_of _ | (constructor <;> omega))) (by (first | exact B31_s (by omega) (by omega) | exact B31_of _ | (constructor <;> omega))) (fun h => ?_) (fun h => ?_)
    · have e : m2 = fN σ (x + g) := by omega
      subst e
      refine R_takeF O r1 I HH D (by omega) (by omega) (fun i3 K3 L3 W3 S3 E3 P3 H3 r3 => ?_)
      (try simp only [eI_lit, eI_neg, eI_add, eI_sub, eI_mul, eF_ap, upd_eF])
      refine hstep (g + 1) _ _ _ _ _ _ _ _ _ _ _ _ (by omega) ⟨by omega, by congr 1; omega, h9, ⟨x + g, ?_⟩, hW⟩
      have e2 : x + ((g + 1 : Nat) : Int) = x + g + 1 := by omega
      rw [e2, hz_next (by omega)]; exact r3
    · have hbd := fB_bd O (h := x + g) (by omega) (j := m2) (by omega)
      refine And.intro (eI_in (by omega) (by omega) (by omega)) ?_; (try simp (disch := omega) only [eI_cl, Int.toNat_natCast])
      rw [hb m2 (by omega)]
      (try simp only [eI_lit, eI_neg, eI_add, eI_sub, eI_mul, eF_ap, upd_eF])
      have take : win s (fB σ (x + g)) (x + g) (wout σ s x g) (m2 + 1) = some (fB σ (x + g) m2, x + g, (m2 : Int)) → kr2 (eI 1) (eI (m2 + 1)) (upd (upd (upd fi2 1 (eI (fB σ (x + g) m2))) 2 (eI (x + g))) 3 (eI m2)) := fun he => by
        refine hs2 (m2 + 1) _ _ _ (by omega) ⟨by omega, by congr 1, ?_, ?_⟩
        · rw [upd_n (by omega), upd_n (by omega), upd_n (by omega)]; exact h9
        · rw [he]
          refine ⟨rfl, ?_, ?_, ?_, hbd⟩
          · rw [upd_n (by omega), upd_n (by omega), upd_s]
          · rw [upd_n (by omega), upd_s]
          · rw [upd_s]
      cases ho : win s (fB σ (x + g)) (x + g) (wout σ s x g) m2 with
      | none =>
        rw [ho] at hW
        have e : x5 = 0 := hW
        subst e
        refine ⟨fun _ => take (by rw [win, ho]; rfl), fun h => absurd rfl h⟩
      | some p =>
        rw [ho] at hW
        obtain ⟨e, e0, e1, e2, hl, hh⟩ := hW
        subst e
        refine ⟨fun h => absurd h (by decide), fun _ => ?_⟩
        rw [e0]
        have keep : win s (fB σ (x + g)) (x + g) (wout σ s x g) (m2 + 1) = some p → kr2 1 (eI (m2 + 1)) fi2 := fun he => by
          refine hs2 (m2 + 1) _ _ _ (by omega) ⟨by omega, by congr 1, h9, ?_⟩
          rw [he]
          exact ⟨rfl, e0, e1, e2, hl, hh⟩
        rcases hs with ⟨rfl, rfl⟩ | ⟨rfl, rfl⟩
        · refine ⟨fun h => absurd h (by decide), fun _ => ?_⟩
          refine q_le (by (first | exact B31_s (by omega) (by omega) | exact B31_of _ | (constructor <;> omega))) (by (first | exact B31_s (by omega) (by omega) | exact B31_of _ | (constructor <;> omega))) (fun h2 => ?_) (fun h2 => ?_)
          · exact keep (by rw [win, ho]; show (if 1 * p.1 < 1 * _ then _ else _) = _; rw [if_neg (by omega)])
          · exact take (by rw [win, ho]; show (if 1 * p.1 < 1 * _ then _ else _) = _; rw [if_pos (by omega)])
        · refine ⟨fun _ => ?_, fun h => absurd rfl h⟩
          refine q_le (by (first | exact B31_s (by omega) (by omega) | exact B31_of _ | (constructor <;> omega))) (by (first | exact B31_s (by omega) (by omega) | exact B31_of _ | (constructor <;> omega))) (fun h2 => ?_) (fun h2 => ?_)
          · exact keep (by rw [win, ho]; show (if -1 * p.1 < -1 * _ then _ else _) = _; rw [if_neg (by omega)])
          · exact take (by rw [win, ho]; show (if -1 * p.1 < -1 * _ then _ else _) = _; rw [if_pos (by omega)])
theorem C_borne {σ} (O : LOk σ) {fi i K L W S E P H b : F32} {il gl hl fl d : F32} (I : LnI σ il) (G : LnG σ gl) (HH : LnH σ hl) (FF : LnF σ fl) (D : LnK σ d) {x y v : Int} (hx : B31 x) (hy : B31 y) (hv : B31 v) {s : Int} {m : Int32} (hs : (s = 1 ∧ m = 1) ∨ (s = -1 ∧ m = 0)) {Q : Int32 → F32 → QR9} {X : Prop} (h0 : ¬ (0 ≤ v ∧ v ≤ 2) → X) (hq : 0 ≤ v ∧ v ≤ 2 → ∀ fi' i' K' L' W' S' E' P' H' b', fi' 9 = fi 9 → Q (eI (strS σ s x y v)) fi' i' K' L' W' S' E' P' H' b') : w_LongTrain_borne il fi i hl fl K L W S E P H d gl b (eI x) (eI y) (eI v) m Q X := by
  unfold w_LongTrain_borne
  (try simp only [eI_lit, eI_neg, eI_add, eI_sub, eI_mul, eF_ap, upd_eF])
  refine q_lt hv (by (first | exact B31_s (by omega) (by omega) | exact B31_of _ | (constructor <;> omega))) (fun h => h0 (by omega)) (fun a => ?_)
  refine q_le hv (by (first | exact B31_s (by omega) (by omega) | exact B31_of _ | (constructor <;> omega))) (fun a2 => ?_) (fun h => h0 (by omega))
  have hq' := hq ⟨a, a2⟩
  unfold strS at hq'
  refine C_isWay O I hx hy (fun c h g => ?_) (fun c => ?_)
  · (first | refine z1T ?_ | refine z1N ?_)
    rw [if_pos ⟨c, h, g⟩] at hq'
    refine C_findBorne O I G HH FF D c h g hs (fun z fi' i' K' L' W' S' E' P' H' b' h9 hW => ?_)
    cases ho : wout σ s x (y - x + 1).toNat with
    | none =>
      rw [ho] at hW hq'
      have e : z = 0 := hW
      subst e
      (first | refine z0T ?_ | refine z0N ?_)
      exact hq' _ _ _ _ _ _ _ _ _ _ h9
    | some p =>
      rw [ho] at hW hq'
      obtain ⟨e, e0, e1, e2, _, _⟩ := hW
      subst e
      (first | refine z1T ?_ | refine z1N ?_)
      have hq2 := hq' fi' i' K' L' W' S' E' P' H' b' h9
      rw [e0, e1, e2]
      (try simp only [eI_lit, eI_neg, eI_add, eI_sub, eI_mul, eF_ap, upd_eF])
      refine q_ne hv (by (first | exact B31_s (by omega) (by omega) | exact B31_of _ | (constructor <;> omega))) (fun n0 => ?_) (fun n0 => ?_)
      · refine q_ne hv (by (first | exact B31_s (by omega) (by omega) | exact B31_of _ | (constructor <;> omega))) (fun n1 => ?_) (fun n1 => ?_)
        · simp only [if_neg n0, if_neg n1] at hq2; exact hq2
        · simp only [if_neg n0, if_pos n1] at hq2; exact hq2
      · simp only [if_pos n0] at hq2; exact hq2
  · (first | refine z0T ?_ | refine z0N ?_)
    rw [if_neg c] at hq'
    exact hq' _ _ _ _ _ _ _ _ _ _ rfl
theorem C_strain {σ} (O : LOk σ) {fi i K L W S E P H b : F32} {il gl hl fl d : F32} (I : LnI σ il) (G : LnG σ gl) (HH : LnH σ hl) (FF : LnF σ fl) (D : LnK σ d) {x y v : Int} (hx : B31 x) (hy : B31 y) (hv : B31 v) {Q : Int32 → F32 → QR9} {X : Prop} (h0 : ¬ (0 ≤ v ∧ v ≤ 2) → X) (hq : 0 ≤ v ∧ v ≤ 2 → ∀ fi' i' K' L' W' S' E' P' H' b', fi' 9 = fi 9 → Q (eI (strS σ 1 x y v)) fi' i' K' L' W' S' E' P' H' b') : w_LongTrain_strain il fi i hl fl K L W S E P H d gl b (eI x) (eI y) (eI v) Q X := by
  unfold w_LongTrain_strain
  exact C_borne O I G HH FF D hx hy hv (Or.inl ⟨rfl, rfl⟩) h0 hq
theorem C_squeeze {σ} (O : LOk σ) {fi i K L W S E P H b : F32} {il gl hl fl d : F32} (I : LnI σ il) (G : LnG σ gl) (HH : LnH σ hl) (FF : LnF σ fl) (D : LnK σ d) {x y v : Int} (hx : B31 x) (hy : B31 y) (hv : B31 v) {Q : Int32 → F32 → QR9} {X : Prop} (h0 : ¬ (0 ≤ v ∧ v ≤ 2) → X) (hq : 0 ≤ v ∧ v ≤ 2 → ∀ fi' i' K' L' W' S' E' P' H' b', fi' 9 = fi 9 → Q (eI (strS σ (-1) x y v)) fi' i' K' L' W' S' E' P' H' b') : w_LongTrain_squeeze il fi i hl fl K L W S E P H d gl b (eI x) (eI y) (eI v) Q X := by
  unfold w_LongTrain_squeeze
  exact C_borne O I G HH FF D hx hy hv (Or.inr ⟨rfl, rfl⟩) h0 hq
