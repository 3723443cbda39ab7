/-! cross -/
def crE (σ : Nat → Int) (a b x y : Int) (k : Nat) : Prop := x ≤ σ (441 + 2 * k) ∧ σ (441 + 2 * k) ≤ y ∧ min a b ≤ σ (441 + 2 * k + 1)
def crL (σ : Nat → Int) (a b x y : Int) (k : Nat) : Int := max (σ (441 + 2 * k) - x + (if a ≤ b then a else 0)) (y - σ (441 + 2 * k) + (if a ≤ b then 0 else b))
def crs (σ : Nat → Int) (a b x y : Int) : Nat → Option (Int × Int)
  | 0 => none
  | k + 1 => if x ≤ σ (441 + 2 * k) ∧ σ (441 + 2 * k) ≤ y ∧ min a b ≤ σ (441 + 2 * k + 1) then (match crs σ a b x y k with
      | none => some ((k : Int), crL σ a b x y k)
      | some p => if crL σ a b x y k < p.2 then some ((k : Int), crL σ a b x y k) else some p) else crs σ a b x y k
def crossS (σ : Nat → Int) (a b x y w : Int) : Int := if (1 ≤ a ∧ a ≤ 400) ∧ (1 ≤ b ∧ b ≤ 400) ∧ (0 ≤ x ∧ x < σ 0) ∧ (0 ≤ y ∧ y < σ 0) ∧ x < y ∧ 0 ≤ w ∧ w ≤ 1 then (match crs σ a b x y (σ 2).toNat with
  | none => -1
  | some p => if w = 0 then p.1 else p.2) else -1
def CrR (o : Option (Int × Int)) (x s : Int32) (far : Int32) : Prop := match o with
  | none => x = eI (-1) ∧ s = far
  | some p => x = eI p.1 ∧ s = eI p.2 ∧ 0 ≤ p.1 ∧ p.1 ≤ 100 ∧ 0 ≤ p.2 ∧ p.2 ≤ 2000
theorem crs_y {σ : Nat → Int} {a b x y : Int} {k : Nat} (h : crE σ a b x y k) : crs σ a b x y (k + 1) = (match crs σ a b x y k with
      | none => some ((k : Int), crL σ a b x y k)
      | some p => if crL σ a b x y k < p.2 then some ((k : Int), crL σ a b x y k) else some p) := by
  have h' : x ≤ σ (441 + 2 * k) ∧ σ (441 + 2 * k) ≤ y ∧ min a b ≤ σ (441 + 2 * k + 1) := h
  rw [crs, if_pos h']
theorem crs_n {σ : Nat → Int} {a b x y : Int} {k : Nat} (h : ¬ crE σ a b x y k) : crs σ a b x y (k + 1) = crs σ a b x y k := by
  have h' : ¬ (x ≤ σ (441 + 2 * k) ∧ σ (441 + 2 * k) ≤ y ∧ min a b ≤ σ (441 + 2 * k + 1)) := h
  rw [crs, if_neg h']
theorem M_cross {σ} (O : LOk σ) {i : F32} {a b x y w : Int} (ha : B31 a) (hb : B31 b) (hx : B31 x) (hy : B31 y) (hw : B31 w) {Q : Int32 → F32 → Prop} (hq : ∀ i', KP i i' → Q (eI (crossS σ a b x y w)) i') : w_LongTrainModel_cross i (eF σ) (eI a) (eI b) (eI x) (eI y) (eI w) Q := by
  have hl := O.lc
  have hu := O.u
  unfold w_LongTrainModel_cross
  unfold crossS at hq
  (try simp only [eI_lit, eI_neg, eI_add, eI_sub, eI_mul, eF_ap, upd_eF])
  have no : ¬ ((1 ≤ a ∧ a ≤ 400) ∧ (1 ≤ b ∧ b ≤ 400) ∧ (0 ≤ x ∧ x < σ 0) ∧ (0 ≤ y ∧ y < σ 0) ∧ x < y ∧ 0 ≤ w ∧ w ≤ 1) → Q (eI (-1)) (upd i 0 (eI 0)) := fun hn => by rw [if_neg hn] at hq; exact hq _ KP.u0
  refine M_isIn ha (by (first | exact B31_s (by omega) (by omega) | exact B31_of _ | (constructor <;> omega))) (by (first | exact B31_s (by omega) (by omega) | exact B31_of _ | (constructor <;> omega))) (fun a1 a2 => ?_) (fun a => by (first | refine z0T ?_ | refine z0N ?_); exact no (by omega))
  (first | refine z1T ?_ | refine z1N ?_)
  refine M_isIn hb (by (first | exact B31_s (by omega) (by omega) | exact B31_of _ | (constructor <;> omega))) (by (first | exact B31_s (by omega) (by omega) | exact B31_of _ | (constructor <;> omega))) (fun b1 b2 => ?_) (fun a => by (first | refine z0T ?_ | refine z0N ?_); exact no (by omega))
  (first | refine z1T ?_ | refine z1N ?_)
  refine M_isUnit O hx (fun c1 c2 => ?_) (fun a => by (first | refine z0T ?_ | refine z0N ?_); exact no (by omega))
  (first | refine z1T ?_ | refine z1N ?_)
  refine M_isUnit O hy (fun d1 d2 => ?_) (fun a => by (first | refine z0T ?_ | refine z0N ?_); exact no (by omega))
  (first | refine z1T ?_ | refine z1N ?_)
  refine q_le hy hx (fun h => no (by omega)) (fun hxy => ?_)
  refine M_isIn hw (by (first | exact B31_s (by omega) (by omega) | exact B31_of _ | (constructor <;> omega))) (by (first | exact B31_s (by omega) (by omega) | exact B31_of _ | (constructor <;> omega))) (fun e1 e2 => ?_) (fun a => by (first | refine z0T ?_ | refine z0N ?_); exact no (by omega))
  (first | refine z1T ?_ | refine z1N ?_)
  rw [if_pos (by omega)] at hq
  refine lg_LongTrainModel_cross_73 (G := Nat) (fun g x6 x7 x8 => (g : Int) ≤ σ 2 ∧ x8 = eI g ∧ CrR (crs σ a b x y g) x6 x7 (eI 1000000000)) (fun g => (σ 2).toNat - g) ?_ 0 ⟨by omega, rfl, rfl, rfl⟩
  rintro kr g x6 x7 x8 ⟨hg, rfl, hR⟩ hs
  unfold b_LongTrainModel_cross_73
  (try simp only [eI_lit, eI_neg, eI_add, eI_sub, eI_mul, eF_ap, upd_eF])
  refine q_le (by (first | exact B31_s (by omega) (by omega) | exact B31_of _ | (constructor <;> omega))) (by (first | exact B31_s (by omega) (by omega) | exact B31_of _ | (constructor <;> omega))) (fun h => ?_) (fun h => ?_)
  · have eg : (σ 2).toNat = g := by omega
    rw [eg] at hq
    cases ho : crs σ a b x y g with
    | none =>
      rw [ho] at hR hq
      obtain ⟨rfl, rfl⟩ := hR
      exact q_lt (by (first | exact B31_s (by omega) (by omega) | exact B31_of _ | (constructor <;> omega))) (by (first | exact B31_s (by omega) (by omega) | exact B31_of _ | (constructor <;> omega))) (fun _ => hq _ KP.u0) (fun h => by omega)
    | some p =>
      rw [ho] at hR hq
      obtain ⟨rfl, rfl, p1, p2, p3, p4⟩ := hR
      refine q_lt (by (first | exact B31_s (by omega) (by omega) | exact B31_of _ | (constructor <;> omega))) (by (first | exact B31_s (by omega) (by omega) | exact B31_of _ | (constructor <;> omega))) (fun _ => by omega) (fun _ => ?_)
      refine q_ne hw (by (first | exact B31_s (by omega) (by omega) | exact B31_of _ | (constructor <;> omega))) (fun h2 => ?_) (fun h2 => ?_)
      · simp only [if_neg h2] at hq; exact hq _ KP.u0
      · simp only [if_pos h2] at hq; exact hq _ KP.u0
  · have hlp := O.lp g (by omega)
    have ei1 : (441 + 2 * (g : Int)).toNat = 441 + 2 * g := by omega
    have ei2 : (441 + 2 * (g : Int) + 1).toNat = 441 + 2 * g + 1 := by omega
    refine And.intro (eI_in (by omega) (by omega) (by omega)) ?_; (try simp (disch := omega) only [eI_cl, Int.toNat_natCast])
    rw [ei1]
    have skip : ¬ crE σ a b x y g → kr x6 x7 (eI (g + 1)) := fun hn => by
      refine hs (g + 1) _ _ _ (by omega) ⟨by omega, by congr 1, ?_⟩
      rw [crs_n hn]; exact hR
    have hLb : 0 ≤ crL σ a b x y g → crL σ a b x y g ≤ 2000 → crE σ a b x y g → ∀ v, v = crL σ a b x y g → ((eI v < x7 → kr (eI g) (eI v) (eI (g + 1))) ∧ (¬ eI v < x7 → kr x6 x7 (eI (g + 1)))) := fun l1 l2 hE v hv => by
      subst hv
      have hc := crs_y hE
      cases ho : crs σ a b x y g with
      | none =>
        rw [ho] at hR hc
        obtain ⟨rfl, rfl⟩ := hR
        refine q_lt (by (first | exact B31_s (by omega) (by omega) | exact B31_of _ | (constructor <;> omega))) (by (first | exact B31_s (by omega) (by omega) | exact B31_of _ | (constructor <;> omega))) (fun _ => ?_) (fun h => by omega)
        refine hs (g + 1) _ _ _ (by omega) ⟨by omega, by congr 1, ?_⟩
        rw [hc]; exact ⟨rfl, rfl, by show (0 : Int) ≤ g; omega, by show (g : Int) ≤ 100; omega, l1, l2⟩
      | some p =>
        rw [ho] at hR hc
        obtain ⟨rfl, rfl, p1, p2, p3, p4⟩ := hR
        have hc' : crs σ a b x y (g + 1) = if crL σ a b x y g < p.2 then some ((g : Int), crL σ a b x y g) else some p := hc
        refine q_lt (by (first | exact B31_s (by omega) (by omega) | exact B31_of _ | (constructor <;> omega))) (by (first | exact B31_s (by omega) (by omega) | exact B31_of _ | (constructor <;> omega))) (fun h5 => ?_) (fun h5 => ?_)
        · refine hs (g + 1) _ _ _ (by omega) ⟨by omega, by congr 1, ?_⟩
          rw [hc', if_pos h5]; exact ⟨rfl, rfl, by show (0 : Int) ≤ g; omega, by show (g : Int) ≤ 100; omega, l1, l2⟩
        · refine hs (g + 1) _ _ _ (by omega) ⟨by omega, by congr 1, ?_⟩
          rw [hc', if_neg (by omega)]; exact ⟨rfl, rfl, p1, p2, p3, p4⟩
    refine M_isIn (by (first | exact B31_s (by omega) (by omega) | exact B31_of _ | (constructor <;> omega))) hx hy (fun f1 f2 => ?_) (fun f => by (first | refine z0T ?_ | refine z0N ?_); exact skip (fun hE => f ⟨hE.1, hE.2.1⟩))
    (first | refine z1T ?_ | refine z1N ?_)
    refine And.intro (eI_in (by omega) (by omega) (by omega)) ?_; (try simp (disch := omega) only [eI_cl, Int.toNat_natCast])
    rw [ei2]
    have fin : ∀ (two0 two1 one : Int), one = σ (441 + 2 * g) - x + (if a ≤ b then a else 0) → two1 + two0 = y - σ (441 + 2 * g) + (if a ≤ b then 0 else b) → min a b ≤ σ (441 + 2 * g + 1) → j_LongTrainModel_cross_173 x6 x7 (eI g) (eI one) (eI two0) (eI two1) kr := fun two0 two1 one ho ht hm => by
      have hE : crE σ a b x y g := ⟨f1, f2, hm⟩
      have hL : crL σ a b x y g = max one (two1 + two0) := by unfold crL; rw [← ho, ← ht]
      have l1 : 0 ≤ crL σ a b x y g := by rw [hL]; split at ho <;> omega
      have l2 : crL σ a b x y g ≤ 2000 := by rw [hL]; split at ho <;> split at ht <;> omega
      unfold j_LongTrainModel_cross_173
      (try simp only [eI_lit, eI_neg, eI_add, eI_sub, eI_mul, eF_ap, upd_eF])
      refine q_le (by constructor <;> (split at ho <;> omega)) (by constructor <;> (split at ht <;> omega)) (fun h => ?_) (fun h => ?_)
      · exact hLb l1 l2 hE _ (by rw [hL]; omega)
      · exact hLb l1 l2 hE _ (by rw [hL]; omega)
    have main : ∀ ab : Int, ab = min a b → j_LongTrainModel_cross_135 (eI a) (eI b) (eI x) (eI y) x6 x7 (eI g) (eI (σ (441 + 2 * g))) (eI ab) (eI (σ (441 + 2 * g + 1))) kr := fun ab hab => by
      unfold j_LongTrainModel_cross_135 j_LongTrainModel_cross_155
      (try simp only [eI_lit, eI_neg, eI_add, eI_sub, eI_mul, eF_ap, upd_eF])
      refine q_le (by (first | exact B31_s (by omega) (by omega) | exact B31_of _ | (constructor <;> omega))) (by (first | exact B31_s (by omega) (by omega) | exact B31_of _ | (constructor <;> omega))) (fun h => ?_) (fun h => skip (fun hE => by have := hE.2.2; omega))
      refine q_lt hb ha (fun h2 => ?_) (fun h2 => ?_)
      · refine q_lt hb ha (fun h3 => ?_) (fun h3 => by omega)
        exact fin _ _ _ (by rw [if_neg (by omega)]) (by rw [if_neg (by omega)]) (by omega)
      · refine q_lt hb ha (fun h3 => by omega) (fun h3 => ?_)
        exact fin _ _ _ (by rw [if_pos (by omega)]) (by rw [if_pos (by omega)]) (by omega)
    exact q_le hb ha (fun h => main _ (by omega)) (fun h => main _ (by omega))
theorem C_isLong {x : Int} (hx : B31 x) {Q : Int32 → Prop} (h1 : 1 ≤ x → x ≤ 400 → Q 1) (h0 : ¬ (1 ≤ x ∧ x ≤ 400) → Q 0) : w_LongTrain_isLongTrain (eI x) Q := by
  unfold w_LongTrain_isLongTrain
  (try simp only [eI_lit, eI_neg, eI_add, eI_sub, eI_mul, eF_ap, upd_eF])
  refine q_lt hx (by (first | exact B31_s (by omega) (by omega) | exact B31_of _ | (constructor <;> omega))) (fun h => h0 (by omega)) (fun h => ?_)
  exact q_lt (by (first | exact B31_s (by omega) (by omega) | exact B31_of _ | (constructor <;> omega))) hx (fun h2 => h0 (by omega)) (fun h2 => h1 h h2)
theorem C_cross {σ} (O : LOk σ) {il ol : F32} (I : LnI σ il) (OO : LnO σ ol) {a b x y w : Int} (ha : B31 a) (hb : B31 b) (hx : B31 x) (hy : B31 y) (hw : B31 w) {Q : Int32 → Prop} (hq : Q (eI (crossS σ a b x y w))) : w_LongTrain_cross il ol (eI a) (eI b) (eI x) (eI y) (eI w) Q := by
  have hl := O.lc
  have hu := O.u
  unfold w_LongTrain_cross
  unfold crossS at hq
  have no : ¬ ((1 ≤ a ∧ a ≤ 400) ∧ (1 ≤ b ∧ b ≤ 400) ∧ (0 ≤ x ∧ x < σ 0) ∧ (0 ≤ y ∧ y < σ 0) ∧ x < y ∧ 0 ≤ w ∧ w ≤ 1) → j_LongTrain_cross_41 il ol (eI a) (eI b) (eI x) (eI y) (eI w) Q := fun hn => by
    rw [if_neg hn] at hq
    unfold j_LongTrain_cross_41 j_LongTrain_cross_42
    (first | refine z0T ?_ | refine z0N ?_); exact hq
  refine C_isLong ha (fun a1 a2 => ?_) (fun a => by (first | refine z0T ?_ | refine z0N ?_); exact no (by omega))
  (first | refine z1T ?_ | refine z1N ?_)
  refine C_isLong hb (fun b1 b2 => ?_) (fun a => by (first | refine z0T ?_ | refine z0N ?_); exact no (by omega))
  (first | refine z1T ?_ | refine z1N ?_)
  refine C_isUnit O I hx (fun c1 c2 => ?_) (fun a => by (first | refine z0T ?_ | refine z0N ?_); exact no (by omega))
  (first | refine z1T ?_ | refine z1N ?_)
  refine C_isUnit O I hy (fun d1 d2 => ?_) (fun a => by (first | refine z0T ?_ | refine z0N ?_); exact no (by omega))
  (first | refine z1T ?_ | refine z1N ?_)
  refine q_le hy hx (fun h => no (by omega)) (fun hxy => ?_)
  unfold j_LongTrain_cross_42
  (first | refine z1T ?_ | refine z1N ?_)
  (try simp only [eI_lit, eI_neg, eI_add, eI_sub, eI_mul, eF_ap, upd_eF])
  refine q_lt hw (by (first | exact B31_s (by omega) (by omega) | exact B31_of _ | (constructor <;> omega))) (fun h => by rw [if_neg (by omega)] at hq; exact hq) (fun e1 => ?_)
  refine q_le hw (by (first | exact B31_s (by omega) (by omega) | exact B31_of _ | (constructor <;> omega))) (fun e2 => ?_) (fun h => by rw [if_neg (by omega)] at hq; exact hq)
  rw [if_pos (by omega)] at hq
  refine lg_LongTrain_cross_80 (G := Nat) (fun g x6 x7 x8 => (g : Int) ≤ σ 2 ∧ x8 = eI g ∧ CrR (crs σ a b x y g) x6 x7 (eI (-1))) (fun g => (σ 2).toNat - g) ?_ 0 ⟨by omega, rfl, rfl, rfl⟩
  rintro kr g x6 x7 x8 ⟨hg, rfl, hR⟩ hs
  unfold b_LongTrain_cross_80
  rw [I.lc, jmin_e ha hb]
  (try simp only [eI_lit, eI_neg, eI_add, eI_sub, eI_mul, eF_ap, upd_eF])
  refine q_le (by (first | exact B31_s (by omega) (by omega) | exact B31_of _ | (constructor <;> omega))) (by (first | exact B31_s (by omega) (by omega) | exact B31_of _ | (constructor <;> omega))) (fun h => ?_) (fun h => ?_)
  · have eg : (σ 2).toNat = g := by omega
    rw [eg] at hq
    cases ho : crs σ a b x y g with
    | none =>
      rw [ho] at hR hq
      obtain ⟨rfl, rfl⟩ := hR
      exact q_ne hw (by (first | exact B31_s (by omega) (by omega) | exact B31_of _ | (constructor <;> omega))) (fun h2 => hq) (fun h2 => hq)
    | some p =>
      rw [ho] at hR hq
      obtain ⟨rfl, rfl, p1, p2, p3, p4⟩ := hR
      refine q_ne hw (by (first | exact B31_s (by omega) (by omega) | exact B31_of _ | (constructor <;> omega))) (fun h2 => ?_) (fun h2 => ?_)
      · simp only [if_neg h2] at hq; exact hq
      · simp only [if_pos h2] at hq; exact hq
  · have hlp := O.lp g (by omega)
    have ei1 : (2 * (g : Int)).toNat = 2 * g := by omega
    have ei2 : (2 * (g : Int) + 1).toNat = 2 * g + 1 := by omega
    refine And.intro (eI_in (by omega) (by omega) (by omega)) ?_; (try simp (disch := omega) only [eI_cl, Int.toNat_natCast])
    rw [ei1, OO (2 * g) (by omega)]
    have e3 : σ (441 + 2 * g + 1) = σ (441 + (2 * g + 1)) := rfl
    have skip : ¬ crE σ a b x y g → kr x6 x7 (eI (g + 1)) := fun hn => by
      refine hs (g + 1) _ _ _ (by omega) ⟨by omega, by congr 1, ?_⟩
      rw [crs_n hn]; exact hR
    refine q_lt (by (first | exact B31_s (by omega) (by omega) | exact B31_of _ | (constructor <;> omega))) hx (fun h2 => skip (fun hE => by have := hE.1; omega)) (fun f1 => ?_)
    refine q_lt hy (by (first | exact B31_s (by omega) (by omega) | exact B31_of _ | (constructor <;> omega))) (fun h2 => skip (fun hE => by have := hE.2.1; omega)) (fun f2 => ?_)
    refine And.intro (eI_in (by omega) (by omega) (by omega)) ?_; (try simp (disch := omega) only [eI_cl, Int.toNat_natCast])
    rw [ei2, OO (2 * g + 1) (by omega), ← e3]
    refine q_le (by (first | exact B31_s (by omega) (by omega) | exact B31_of _ | (constructor <;> omega))) (by (first | exact B31_s (by omega) (by omega) | exact B31_of _ | (constructor <;> omega))) (fun f3 => ?_) (fun h2 => skip (fun hE => by have := hE.2.2; omega))
    have hE : crE σ a b x y g := ⟨f1, f2, f3⟩
    have fin : ∀ (two0 two1 one : Int), one = σ (441 + 2 * g) - x + (if a ≤ b then a else 0) → two1 + two0 = y - σ (441 + 2 * g) + (if a ≤ b then 0 else b) → j_LongTrain_cross_170 x6 x7 (eI g) (eI one) (eI two0) (eI two1) kr := fun two0 two1 one ho ht => by
      have hL : crL σ a b x y g = max one (two1 + two0) := by unfold crL; rw [← ho, ← ht]
      have l1 : 0 ≤ crL σ a b x y g := by rw [hL]; split at ho <;> omega
      have l2 : crL σ a b x y g ≤ 2000 := by rw [hL]; split at ho <;> split at ht <;> omega
      have hc := crs_y hE
      unfold j_LongTrain_cross_170
      (try simp only [eI_lit, eI_neg, eI_add, eI_sub, eI_mul, eF_ap, upd_eF])
      rw [jmax_e (by constructor <;> (split at ho <;> omega)) (by constructor <;> (split at ht <;> omega)), ← hL]
      cases hoo : crs σ a b x y g with
      | none =>
        rw [hoo] at hR hc
        obtain ⟨rfl, rfl⟩ := hR
        refine q_eq (by (first | exact B31_s (by omega) (by omega) | exact B31_of _ | (constructor <;> omega))) (by (first | exact B31_s (by omega) (by omega) | exact B31_of _ | (constructor <;> omega))) (fun _ => ?_) (fun h => by omega)
        refine hs (g + 1) _ _ _ (by omega) ⟨by omega, by congr 1, ?_⟩
        rw [hc]; exact ⟨rfl, rfl, by show (0 : Int) ≤ g; omega, by show (g : Int) ≤ 100; omega, l1, l2⟩
      | some p =>
        rw [hoo] at hR hc
        obtain ⟨rfl, rfl, p1, p2, p3, p4⟩ := hR
        have hc' : crs σ a b x y (g + 1) = if crL σ a b x y g < p.2 then some ((g : Int), crL σ a b x y g) else some p := hc
        refine q_eq (by (first | exact B31_s (by omega) (by omega) | exact B31_of _ | (constructor <;> omega))) (by (first | exact B31_s (by omega) (by omega) | exact B31_of _ | (constructor <;> omega))) (fun _ => by omega) (fun _ => ?_)
        refine q_le (by (first | exact B31_s (by omega) (by omega) | exact B31_of _ | (constructor <;> omega))) (by (first | exact B31_s (by omega) (by omega) | exact B31_of _ | (constructor <;> omega))) (fun h5 => ?_) (fun h5 => ?_)
        · refine hs (g + 1) _ _ _ (by omega) ⟨by omega, by congr 1, ?_⟩
          rw [hc', if_neg (by omega)]; exact ⟨rfl, rfl, p1, p2, p3, p4⟩
        · refine hs (g + 1) _ _ _ (by omega) ⟨by omega, by congr 1, ?_⟩
          rw [hc', if_pos h5]; exact ⟨rfl, rfl, by show (0 : Int) ≤ g; omega, by show (g : Int) ≤ 100; omega, l1, l2⟩
    unfold j_LongTrain_cross_152
    (try simp only [eI_lit, eI_neg, eI_add, eI_sub, eI_mul, eF_ap, upd_eF])
    refine q_lt hb ha (fun h2 => ?_) (fun h2 => ?_)
    · refine q_lt hb ha (fun h3 => ?_) (fun h3 => by omega)
      exact fin _ _ _ (by rw [if_neg (by omega)]) (by rw [if_neg (by omega)])
    · refine q_lt hb ha (fun h3 => by omega) (fun h3 => ?_)
      exact fin _ _ _ (by rw [if_pos (by omega)]) (by rw [if_pos (by omega)])
