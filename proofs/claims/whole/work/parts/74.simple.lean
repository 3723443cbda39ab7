/-! the simple calls -/
theorem M_grade {σ} (O : LOk σ) {i : F32} {u : Int} (hu : B31 u) {Q : Int32 → F32 → Prop} (h0 : ¬ (-999 ≤ u ∧ u < σ 0) → ∀ z i', KP i i' → i' 0 = 1 → Q z i') (hq : -999 ≤ u ∧ u < σ 0 → ∀ i', KP i i' → i' 0 = 0 → Q (eI (GR σ u)) i') : w_LongTrainModel_grade i (eF σ) (eI u) Q := by
  have hU := O.u
  unfold w_LongTrainModel_grade
  (try simp only [eI_lit, eI_neg, eI_add, eI_sub, eI_mul, eF_ap, upd_eF])
  refine M_isIn hu (by (first | exact B31_s (by omega) (by omega) | exact B31_of _ | (constructor <;> omega))) (by (first | exact B31_s (by omega) (by omega) | exact B31_of _ | (constructor <;> omega))) (fun a1 a2 => ?_) (fun a => ?_)
  · (first | refine z1T ?_ | refine z1N ?_)
    unfold j_LongTrainModel_grade_24
    refine M_throwsIf0 ?_
    (first | refine z0T ?_ | refine z0N ?_)
    exact M_GR (by omega) (by omega) (hq ⟨a1, by omega⟩ _ KP.u0 upd_s)
  · (first | refine z0T ?_ | refine z0N ?_)
    unfold j_LongTrainModel_grade_24
    refine M_throwsIf1 ?_
    (first | refine z1T ?_ | refine z1N ?_)
    exact h0 (by omega) _ _ KP.u0 upd_s
theorem C_grade {σ} (O : LOk σ) {il gl : F32} (I : LnI σ il) (G : LnG σ gl) {u : Int} (hu : B31 u) {Q : Int32 → Prop} {X : Prop} (h0 : ¬ (-999 ≤ u ∧ u < σ 0) → X) (hq : -999 ≤ u ∧ u < σ 0 → Q (eI (GR σ u))) : w_LongTrain_grade il gl (eI u) Q X := by
  have hU := O.u
  unfold w_LongTrain_grade
  rw [I.u]
  (try simp only [eI_lit, eI_neg, eI_add, eI_sub, eI_mul, eF_ap, upd_eF])
  refine q_lt hu (by (first | exact B31_s (by omega) (by omega) | exact B31_of _ | (constructor <;> omega))) (fun h => h0 (by omega)) (fun a1 => ?_)
  refine q_lt hu (by (first | exact B31_s (by omega) (by omega) | exact B31_of _ | (constructor <;> omega))) (fun a2 => ?_) (fun h => h0 (by omega))
  refine L_gradeOf I G (by omega) (by omega) (by omega) (by omega) ?_
  rw [GC_GR a2]
  exact hq ⟨a1, a2⟩
def haltS (σ : Nat → Int) (k w : Int) : Int := if w = 0 then AT σ k else if w = 1 then HL σ k else AD σ k
theorem M_halt {σ} (O : LOk σ) {i : F32} {k w : Int} (hk : B31 k) (hw : B31 w) {Q : Int32 → F32 → Prop} (h0 : ¬ ((0 ≤ k ∧ k < σ 1) ∧ 0 ≤ w ∧ w ≤ 2) → ∀ z i', KP i i' → i' 0 = 1 → Q z i') (hq : (0 ≤ k ∧ k < σ 1) ∧ 0 ≤ w ∧ w ≤ 2 → ∀ i', KP i i' → i' 0 = 0 → Q (eI (haltS σ k w)) i') : w_LongTrainModel_halt i (eF σ) (eI k) (eI w) Q := by
  have hc := O.hc
  unfold w_LongTrainModel_halt
  have bad : ¬ ((0 ≤ k ∧ k < σ 1) ∧ 0 ≤ w ∧ w ≤ 2) → j_LongTrainModel_halt_18 i (eF σ) (eI k) (eI w) Q := fun hn => by
    unfold j_LongTrainModel_halt_18 j_LongTrainModel_halt_23
    refine M_throwsIf1 ?_
    (first | refine z1T ?_ | refine z1N ?_)
    exact h0 hn _ _ KP.u0 upd_s
  refine M_isHalt O hk (fun a1 a2 => ?_) (fun a => by (first | refine z0T ?_ | refine z0N ?_); exact bad (by omega))
  (first | refine z1T ?_ | refine z1N ?_)
  refine M_isIn (b := 0) (c := 2) hw (by (first | exact B31_s (by omega) (by omega) | exact B31_of _ | (constructor <;> omega))) (by (first | exact B31_s (by omega) (by omega) | exact B31_of _ | (constructor <;> omega))) (fun b1 b2 => ?_) (fun a => by (first | refine z0T ?_ | refine z0N ?_); exact bad (by omega))
  (first | refine z1T ?_ | refine z1N ?_)
  unfold j_LongTrainModel_halt_23
  refine M_throwsIf0 ?_
  (first | refine z0T ?_ | refine z0N ?_)
  have hq' := hq ⟨⟨a1, a2⟩, b1, b2⟩ _ (KP.u0 (x := 0)) upd_s
  unfold haltS at hq'
  (try simp only [eI_lit, eI_neg, eI_add, eI_sub, eI_mul, eF_ap, upd_eF])
  refine q_ne hw (by (first | exact B31_s (by omega) (by omega) | exact B31_of _ | (constructor <;> omega))) (fun n0 => ?_) (fun n0 => ?_)
  · rw [if_neg n0] at hq'
    refine q_ne hw (by (first | exact B31_s (by omega) (by omega) | exact B31_of _ | (constructor <;> omega))) (fun n1 => ?_) (fun n1 => ?_)
    · rw [if_neg n1] at hq'
      exact M_addsOf a1 (by omega) hq'
    · rw [if_pos n1] at hq'
      refine And.intro (eI_in (by omega) (by omega) (by omega)) ?_; (try simp (disch := omega) only [eI_cl, Int.toNat_natCast]); exact hq'
  · rw [if_pos n0] at hq'
    exact M_haltAt a1 (by omega) hq'
theorem C_halt {σ} (O : LOk σ) {il hl : F32} (I : LnI σ il) (HH : LnH σ hl) {k w : Int} (hk : B31 k) (hw : B31 w) {Q : Int32 → Prop} {X : Prop} (h0 : ¬ ((0 ≤ k ∧ k < σ 1) ∧ 0 ≤ w ∧ w ≤ 2) → X) (hq : (0 ≤ k ∧ k < σ 1) ∧ 0 ≤ w ∧ w ≤ 2 → Q (eI (haltS σ k w))) : w_LongTrain_halt il hl (eI k) (eI w) Q X := by
  have hc := O.hc
  unfold w_LongTrain_halt
  refine C_isHalt O I hk (fun a1 a2 => ?_) (fun a => by (first | refine z0T ?_ | refine z0N ?_); exact h0 (by omega))
  (first | refine z1T ?_ | refine z1N ?_)
  (try simp only [eI_lit, eI_neg, eI_add, eI_sub, eI_mul, eF_ap, upd_eF])
  refine q_lt hw (by (first | exact B31_s (by omega) (by omega) | exact B31_of _ | (constructor <;> omega))) (fun h => h0 (by omega)) (fun b1 => ?_)
  refine q_le hw (by (first | exact B31_s (by omega) (by omega) | exact B31_of _ | (constructor <;> omega))) (fun b2 => ?_) (fun h => h0 (by omega))
  refine And.intro (eI_in (by omega) (by omega) (by omega)) ?_; (try simp (disch := omega) only [eI_cl, Int.toNat_natCast])
  have hq' := hq ⟨⟨a1, a2⟩, b1, b2⟩
  unfold haltS at hq'
  have h3 := HH k.toNat (by omega)
  have ek : ((k.toNat : Nat) : Int) = k := by omega
  rw [ek] at h3
  have hw3 : w = 0 ∨ w = 1 ∨ w = 2 := by omega
  rcases hw3 with rfl | rfl | rfl
  · have e : (3 * k + 0).toNat = 3 * k.toNat := by omega
    rw [e, h3.1]; exact hq'
  · have e : (3 * k + 1).toNat = 3 * k.toNat + 1 := by omega
    rw [e, h3.2.1]; exact hq'
  · have e : (3 * k + 2).toNat = 3 * k.toNat + 2 := by omega
    rw [e, h3.2.2]; exact hq'
theorem M_kind {σ} (O : LOk σ) {i : F32} {k w : Int} (hk : B31 k) (hw : B31 w) {Q : Int32 → F32 → Prop} (h0 : ¬ ((0 ≤ k ∧ k < σ 3) ∧ 0 ≤ w ∧ w ≤ 2) → ∀ z i', KP i i' → i' 0 = 1 → Q z i') (hq : (0 ≤ k ∧ k < σ 3) ∧ 0 ≤ w ∧ w ≤ 2 → ∀ i', KP i i' → i' 0 = 0 → Q (eI (σ (457 + 3 * k + w).toNat)) i') : w_LongTrainModel_kind i (eF σ) (eI k) (eI w) Q := by
  have hc := O.kc
  unfold w_LongTrainModel_kind
  have bad : ¬ ((0 ≤ k ∧ k < σ 3) ∧ 0 ≤ w ∧ w ≤ 2) → j_LongTrainModel_kind_18 i (eF σ) (eI k) (eI w) Q := fun hn => by
    unfold j_LongTrainModel_kind_18 j_LongTrainModel_kind_23
    refine M_throwsIf1 ?_
    (first | refine z1T ?_ | refine z1N ?_)
    exact h0 hn _ _ KP.u0 upd_s
  refine M_isKind O hk (fun a1 a2 => ?_) (fun a => by (first | refine z0T ?_ | refine z0N ?_); exact bad (by omega))
  (first | refine z1T ?_ | refine z1N ?_)
  refine M_isIn (b := 0) (c := 2) hw (by (first | exact B31_s (by omega) (by omega) | exact B31_of _ | (constructor <;> omega))) (by (first | exact B31_s (by omega) (by omega) | exact B31_of _ | (constructor <;> omega))) (fun b1 b2 => ?_) (fun a => by (first | refine z0T ?_ | refine z0N ?_); exact bad (by omega))
  (first | refine z1T ?_ | refine z1N ?_)
  unfold j_LongTrainModel_kind_23
  refine M_throwsIf0 ?_
  (first | refine z0T ?_ | refine z0N ?_)
  (try simp only [eI_lit, eI_neg, eI_add, eI_sub, eI_mul, eF_ap, upd_eF]); refine And.intro (eI_in (by omega) (by omega) (by omega)) ?_; (try simp (disch := omega) only [eI_cl, Int.toNat_natCast])
  exact hq ⟨⟨a1, a2⟩, b1, b2⟩ _ (KP.u0 (x := 0)) upd_s
theorem C_kind {σ} (O : LOk σ) {il d : F32} (I : LnI σ il) (D : LnK σ d) {k w : Int} (hk : B31 k) (hw : B31 w) {Q : Int32 → Prop} {X : Prop} (h0 : ¬ ((0 ≤ k ∧ k < σ 3) ∧ 0 ≤ w ∧ w ≤ 2) → X) (hq : (0 ≤ k ∧ k < σ 3) ∧ 0 ≤ w ∧ w ≤ 2 → Q (eI (σ (457 + 3 * k + w).toNat))) : w_LongTrain_kind il d (eI k) (eI w) Q X := by
  have hc := O.kc
  unfold w_LongTrain_kind
  refine C_isKind O I hk (fun a1 a2 => ?_) (fun a => by (first | refine z0T ?_ | refine z0N ?_); exact h0 (by omega))
  (first | refine z1T ?_ | refine z1N ?_)
  (try simp only [eI_lit, eI_neg, eI_add, eI_sub, eI_mul, eF_ap, upd_eF])
  refine q_lt hw (by (first | exact B31_s (by omega) (by omega) | exact B31_of _ | (constructor <;> omega))) (fun h => h0 (by omega)) (fun b1 => ?_)
  refine q_le hw (by (first | exact B31_s (by omega) (by omega) | exact B31_of _ | (constructor <;> omega))) (fun b2 => ?_) (fun h => h0 (by omega))
  refine And.intro (eI_in (by omega) (by omega) (by omega)) ?_; (try simp (disch := omega) only [eI_cl, Int.toNat_natCast])
  rw [D _ (by omega)]
  have e : 457 + (3 * k + w).toNat = (457 + 3 * k + w).toNat := by omega
  rw [e]
  exact hq ⟨⟨a1, a2⟩, b1, b2⟩
def loopS (σ : Nat → Int) (k w : Int) : Int := if (0 ≤ k ∧ k < σ 2) ∧ 0 ≤ w ∧ w ≤ 1 then σ (441 + 2 * k + w).toNat else -1
theorem M_loop {σ} (O : LOk σ) {i : F32} {k w : Int} (hk : B31 k) (hw : B31 w) {Q : Int32 → F32 → Prop} (hq : ∀ i', KP i i' → Q (eI (loopS σ k w)) i') : w_LongTrainModel_loop i (eF σ) (eI k) (eI w) Q := by
  have hc := O.lc
  unfold w_LongTrainModel_loop
  unfold loopS at hq
  (try simp only [eI_lit, eI_neg, eI_add, eI_sub, eI_mul, eF_ap, upd_eF])
  have no : ¬ ((0 ≤ k ∧ k < σ 2) ∧ 0 ≤ w ∧ w ≤ 1) → Q (eI (-1)) (upd i 0 (eI 0)) := fun hn => by rw [if_neg hn] at hq; exact hq _ KP.u0
  refine M_isIn hk (by (first | exact B31_s (by omega) (by omega) | exact B31_of _ | (constructor <;> omega))) (by (first | exact B31_s (by omega) (by omega) | exact B31_of _ | (constructor <;> omega))) (fun a1 a2 => ?_) (fun a => by (first | refine z0T ?_ | refine z0N ?_); exact no (by omega))
  (first | refine z1T ?_ | refine z1N ?_)
  refine M_isIn hw (by (first | exact B31_s (by omega) (by omega) | exact B31_of _ | (constructor <;> omega))) (by (first | exact B31_s (by omega) (by omega) | exact B31_of _ | (constructor <;> omega))) (fun b1 b2 => ?_) (fun a => by (first | refine z0T ?_ | refine z0N ?_); exact no (by omega))
  (first | refine z1T ?_ | refine z1N ?_)
  refine And.intro (eI_in (by omega) (by omega) (by omega)) ?_; (try simp (disch := omega) only [eI_cl, Int.toNat_natCast])
  rw [if_pos (by omega)] at hq
  exact hq _ KP.u0
theorem C_loop {σ} (O : LOk σ) {il ol : F32} (I : LnI σ il) (OO : LnO σ ol) {k w : Int} (hk : B31 k) (hw : B31 w) {Q : Int32 → Prop} (hq : Q (eI (loopS σ k w))) : w_LongTrain_loop il ol (eI k) (eI w) Q := by
  have hc := O.lc
  unfold w_LongTrain_loop
  unfold loopS at hq
  rw [I.lc]
  (try simp only [eI_lit, eI_neg, eI_add, eI_sub, eI_mul, eF_ap, upd_eF])
  have no : ¬ ((0 ≤ k ∧ k < σ 2) ∧ 0 ≤ w ∧ w ≤ 1) → Q (eI (-1)) := fun hn => by rw [if_neg hn] at hq; exact hq
  refine q_lt hk (by (first | exact B31_s (by omega) (by omega) | exact B31_of _ | (constructor <;> omega))) (fun h => no (by omega)) (fun a1 => ?_)
  refine q_le (by (first | exact B31_s (by omega) (by omega) | exact B31_of _ | (constructor <;> omega))) hk (fun h => no (by omega)) (fun a2 => ?_)
  refine q_lt hw (by (first | exact B31_s (by omega) (by omega) | exact B31_of _ | (constructor <;> omega))) (fun h => no (by omega)) (fun b1 => ?_)
  refine q_le hw (by (first | exact B31_s (by omega) (by omega) | exact B31_of _ | (constructor <;> omega))) (fun b2 => ?_) (fun h => no (by omega))
  refine And.intro (eI_in (by omega) (by omega) (by omega)) ?_; (try simp (disch := omega) only [eI_cl, Int.toNat_natCast])
  rw [if_pos (by omega)] at hq
  rw [OO _ (by omega)]
  have e : 441 + (2 * k + w).toNat = (441 + 2 * k + w).toNat := by omega
  rw [e]; exact hq
def cntS (σ : Nat → Int) (len n : Int32) : Int32 := if n = 0 then eI (σ 0) else if n = 1 then eI (σ 1) else if n = 2 then eI (σ 2) else if n = 3 then eI (σ 3) else if n = 4 then eI (σ 4) else if n = 5 then eI (σ 6) else if n = 6 then eI (σ 7) else if n = 7 then eI (σ 8) else if n = 8 then eI (σ 9) else if n = 9 then eI (σ 977) else if n = 10 then len else -1
theorem br_if {P : Prop} [Decidable P] {a b : Int32} {A : Int32 → Prop} (h : A (if P then a else b)) : (P → A a) ∧ (¬ P → A b) := ⟨fun hp => by rw [if_pos hp] at h; exact h, fun hn => by rw [if_neg hn] at h; exact h⟩
theorem M_count {σ : Nat → Int} {i : F32} {n : Int32} {Q : Int32 → F32 → Prop} (hq : ∀ i', KP i i' → Q (cntS σ (i 2) n) i') : w_LongTrainModel_count i (eF σ) n Q := by
  have h := hq (upd i 0 0) KP.u0
  unfold w_LongTrainModel_count
  unfold cntS at h
  rw [upd_n (by omega)]
  refine (br_if (A := fun z => Q z (upd i 0 0)) h).imp id (fun g h0 => (br_if (A := fun z => Q z (upd i 0 0)) (g h0)).imp id (fun g h0 => (br_if (A := fun z => Q z (upd i 0 0)) (g h0)).imp id (fun g h0 => (br_if (A := fun z => Q z (upd i 0 0)) (g h0)).imp id (fun g h0 => (br_if (A := fun z => Q z (upd i 0 0)) (g h0)).imp id (fun g h0 => (br_if (A := fun z => Q z (upd i 0 0)) (g h0)).imp id (fun g h0 => (br_if (A := fun z => Q z (upd i 0 0)) (g h0)).imp id (fun g h0 => (br_if (A := fun z => Q z (upd i 0 0)) (g h0)).imp id (fun g h0 => (br_if (A := fun z => Q z (upd i 0 0)) (g h0)).imp id (fun g h0 => (br_if (A := fun z => Q z (upd i 0 0)) (g h0)).imp id (fun g h0 => (br_if (A := fun z => Q z (upd i 0 0)) (g h0))))))))))))
theorem C_count {σ : Nat → Int} {i il ip : F32} (I : LnI σ il) (hp : ip 3 = eI (σ 977)) {n : Int32} {Q : Int32 → Prop} (h : Q (cntS σ (i 1) n)) : w_LongTrain_count i il ip n Q := by
  unfold w_LongTrain_count
  unfold cntS at h
  rw [I.u, I.hc, I.lc, I.kc, I.pull, I.rub, I.sand, I.wear, I.walk, hp]
  refine (br_if (A := Q) h).imp id (fun g h0 => (br_if (A := Q) (g h0)).imp id (fun g h0 => (br_if (A := Q) (g h0)).imp id (fun g h0 => (br_if (A := Q) (g h0)).imp id (fun g h0 => (br_if (A := Q) (g h0)).imp id (fun g h0 => (br_if (A := Q) (g h0)).imp id (fun g h0 => (br_if (A := Q) (g h0)).imp id (fun g h0 => (br_if (A := Q) (g h0)).imp id (fun g h0 => (br_if (A := Q) (g h0)).imp id (fun g h0 => (br_if (A := Q) (g h0)).imp id (fun g h0 => (br_if (A := Q) (g h0))))))))))))
/-! what earlier calls left: placed, load, judged -/
theorem M_placed {i r : F32} {n : Int} (hn : B31 n) {m : Nat} (hm : m ≤ 4) (h33 : i 33 = eI m) {Q : Int32 → F32 → Prop} (hq : ∀ i', KP i i' → Q (if 0 ≤ n ∧ n < m then r n.toNat else -1) i') : w_LongTrainModel_placed i r (eI n) Q := by
  unfold w_LongTrainModel_placed
  rw [upd_n (by omega), h33]
  (try simp only [eI_lit, eI_neg, eI_add, eI_sub, eI_mul, eF_ap, upd_eF])
  refine M_isIn hn (by (first | exact B31_s (by omega) (by omega) | exact B31_of _ | (constructor <;> omega))) (by (first | exact B31_s (by omega) (by omega) | exact B31_of _ | (constructor <;> omega))) (fun a1 a2 => ?_) (fun a => ?_)
  · (first | refine z1T ?_ | refine z1N ?_); refine And.intro (eI_in (by omega) (by omega) (by omega)) ?_; (try simp (disch := omega) only [eI_cl, Int.toNat_natCast]); rw [if_pos (by omega)] at hq; exact hq _ KP.u0
  · (first | refine z0T ?_ | refine z0N ?_); rw [if_neg (by omega)] at hq; exact hq _ KP.u0
theorem C_placed {i r : F32} {n : Int} (hn : B31 n) {m : Nat} (hm : m ≤ 4) (h3 : i 3 = eI m) {Q : Int32 → Prop} (hq : Q (if 0 ≤ n ∧ n < m then r n.toNat else -1)) : w_LongTrain_placed i r (eI n) Q := by
  unfold w_LongTrain_placed
  rw [h3]
  (try simp only [eI_lit, eI_neg, eI_add, eI_sub, eI_mul, eF_ap, upd_eF])
  refine q_lt hn (by (first | exact B31_s (by omega) (by omega) | exact B31_of _ | (constructor <;> omega))) (fun h => by rw [if_neg (by omega)] at hq; exact hq) (fun a1 => ?_)
  refine q_lt hn (by (first | exact B31_s (by omega) (by omega) | exact B31_of _ | (constructor <;> omega))) (fun a2 => ?_) (fun h => by rw [if_neg (by omega)] at hq; exact hq)
  refine And.intro (eI_in (by omega) (by omega) (by omega)) ?_; (try simp (disch := omega) only [eI_cl, Int.toNat_natCast]); rw [if_pos (by omega)] at hq; exact hq
theorem M_load {i r : F32} {n m : Int} (hn : B31 n) (hm0 : -1 ≤ m) (hm : m ≤ 8) (h38 : i 38 = eI m) {Q : Int32 → F32 → Prop} (hq : ∀ i', KP i i' → Q (if 0 ≤ n ∧ n < m then r n.toNat else -1) i') : w_LongTrainModel_load i r (eI n) Q := by
  unfold w_LongTrainModel_load
  rw [upd_n (by omega), h38]
  (try simp only [eI_lit, eI_neg, eI_add, eI_sub, eI_mul, eF_ap, upd_eF])
  refine M_isIn hn (by (first | exact B31_s (by omega) (by omega) | exact B31_of _ | (constructor <;> omega))) (by (first | exact B31_s (by omega) (by omega) | exact B31_of _ | (constructor <;> omega))) (fun a1 a2 => ?_) (fun a => ?_)
  · (first | refine z1T ?_ | refine z1N ?_); refine And.intro (eI_in (by omega) (by omega) (by omega)) ?_; (try simp (disch := omega) only [eI_cl, Int.toNat_natCast]); rw [if_pos (by omega)] at hq; exact hq _ KP.u0
  · (first | refine z0T ?_ | refine z0N ?_); rw [if_neg (by omega)] at hq; exact hq _ KP.u0
theorem C_load {i r : F32} {n m : Int} (hn : B31 n) (hm0 : -1 ≤ m) (hm : m ≤ 8) (h9 : i 9 = eI m) {Q : Int32 → Prop} (hq : Q (if 0 ≤ n ∧ n < m then r n.toNat else -1)) : w_LongTrain_load i r (eI n) Q := by
  unfold w_LongTrain_load
  rw [h9]
  (try simp only [eI_lit, eI_neg, eI_add, eI_sub, eI_mul, eF_ap, upd_eF])
  refine q_lt hn (by (first | exact B31_s (by omega) (by omega) | exact B31_of _ | (constructor <;> omega))) (fun h => by rw [if_neg (by omega)] at hq; exact hq) (fun a1 => ?_)
  refine q_lt hn (by (first | exact B31_s (by omega) (by omega) | exact B31_of _ | (constructor <;> omega))) (fun a2 => ?_) (fun h => by rw [if_neg (by omega)] at hq; exact hq)
  refine And.intro (eI_in (by omega) (by omega) (by omega)) ?_; (try simp (disch := omega) only [eI_cl, Int.toNat_natCast]); rw [if_pos (by omega)] at hq; exact hq
theorem M_judged {i r : F32} {n : Int} (hn : B31 n) {Q : Int32 → F32 → Prop} (hq : ∀ i', KP i i' → Q (if i 44 = 0 then -1 else if 0 ≤ n ∧ n ≤ 5 then r n.toNat else -1) i') : w_LongTrainModel_judged i r (eI n) Q := by
  unfold w_LongTrainModel_judged
  rw [upd_n (by omega)]
  refine ⟨fun h => ?_, fun h => ?_⟩
  · rw [if_pos h] at hq; exact hq _ KP.u0
  · rw [if_neg h] at hq
    refine M_isIn (b := 0) (c := 5) hn (by (first | exact B31_s (by omega) (by omega) | exact B31_of _ | (constructor <;> omega))) (by (first | exact B31_s (by omega) (by omega) | exact B31_of _ | (constructor <;> omega))) (fun a1 a2 => ?_) (fun a => ?_)
    · (first | refine z1T ?_ | refine z1N ?_); refine And.intro (eI_in (by omega) (by omega) (by omega)) ?_; (try simp (disch := omega) only [eI_cl, Int.toNat_natCast]); rw [if_pos (by omega)] at hq; exact hq _ KP.u0
    · (first | refine z0T ?_ | refine z0N ?_); rw [if_neg (by omega)] at hq; exact hq _ KP.u0
theorem C_judged {i r : F32} {n : Int} (hn : B31 n) {Q : Int32 → Prop} (hq : Q (if i 1 = 0 then -1 else if 0 ≤ n ∧ n ≤ 5 then r n.toNat else -1)) : w_LongTrain_judged i r (eI n) Q := by
  unfold w_LongTrain_judged
  have no : ¬ (0 ≤ n ∧ n ≤ 5) → Q (-1) := fun h => by
    rw [if_neg h] at hq
    split at hq <;> exact hq
  refine q_lt (b := 0) hn (by (first | exact B31_s (by omega) (by omega) | exact B31_of _ | (constructor <;> omega))) (fun h => no (by omega)) (fun a1 => ?_)
  refine q_lt (a := 5) (by (first | exact B31_s (by omega) (by omega) | exact B31_of _ | (constructor <;> omega))) hn (fun h => no (by omega)) (fun a2 => ?_)
  refine ⟨fun h => ?_, fun h => ?_⟩
  · rw [if_neg h, if_pos (by omega)] at hq; refine And.intro (eI_in (by omega) (by omega) (by omega)) ?_; (try simp (disch := omega) only [eI_cl, Int.toNat_natCast]); exact hq
  · rw [if_pos h] at hq; exact hq
/-! ring -/
def ringS (σ : Nat → Int) (u a b k : Int) : Int := if (1 ≤ u ∧ u ≤ 9999) ∧ (1 ≤ a ∧ a ≤ 999) ∧ (1 ≤ b ∧ b ≤ 999) ∧ (0 ≤ k ∧ k < σ 3) then (if u - a - b < 0 then 0 else (u - a - b) / LG σ k) else -1
theorem M_ring {σ} (O : LOk σ) {i : F32} {u a b k : Int} (hu : B31 u) (ha : B31 a) (hb : B31 b) (hk : B31 k) {Q : Int32 → F32 → Prop} (hq : ∀ i', KP i i' → Q (eI (ringS σ u a b k)) i') : w_LongTrainModel_ring i (eF σ) (eI u) (eI a) (eI b) (eI k) Q := by
  have hc := O.kc
  unfold w_LongTrainModel_ring
  unfold ringS at hq
  (try simp only [eI_lit, eI_neg, eI_add, eI_sub, eI_mul, eF_ap, upd_eF])
  have no : ¬ ((1 ≤ u ∧ u ≤ 9999) ∧ (1 ≤ a ∧ a ≤ 999) ∧ (1 ≤ b ∧ b ≤ 999) ∧ (0 ≤ k ∧ k < σ 3)) → Q (eI (-1)) (upd i 0 (eI 0)) := fun hn => by rw [if_neg hn] at hq; exact hq _ KP.u0
  refine M_isIn hu (by (first | exact B31_s (by omega) (by omega) | exact B31_of _ | (constructor <;> omega))) (by (first | exact B31_s (by omega) (by omega) | exact B31_of _ | (constructor <;> omega))) (fun a1 a2 => ?_) (fun a => by (first | refine z0T ?_ | refine z0N ?_); exact no (by omega))
  (first | refine z1T ?_ | refine z1N ?_)
  refine M_isIn ha (by (first | exact B31_s (by omega) (by omega) | exact B31_of _ | (constructor <;> omega))) (by (first | exact B31_s (by omega) (by omega) | exact B31_of _ | (constructor <;> omega))) (fun b1 b2 => ?_) (fun a => by (first | refine z0T ?_ | refine z0N ?_); exact no (by omega))
  (first | refine z1T ?_ | refine z1N ?_)
  refine M_isIn hb (by (first | exact B31_s (by omega) (by omega) | exact B31_of _ | (constructor <;> omega))) (by (first | exact B31_s (by omega) (by omega) | exact B31_of _ | (constructor <;> omega))) (fun c1 c2 => ?_) (fun a => by (first | refine z0T ?_ | refine z0N ?_); exact no (by omega))
  (first | refine z1T ?_ | refine z1N ?_)
  refine M_isKind O hk (fun d1 d2 => ?_) (fun a => by (first | refine z0T ?_ | refine z0N ?_); exact no (by omega))
  (first | refine z1T ?_ | refine z1N ?_)
  rw [if_pos (by omega)] at hq
  have hl := (O.kd k d1 d2).1
  refine M_longOf d1 (by omega) ?_
  (try simp only [eI_lit, eI_neg, eI_add, eI_sub, eI_mul, eF_ap, upd_eF])
  have hmul : ∀ g : Nat, ((g + 1 : Nat) : Int) * LG σ k = (g : Int) * LG σ k + LG σ k := fun g => by rw [Int.natCast_add, Int.add_mul]; simp
  have hge : ∀ g : Nat, (g : Int) ≤ (g : Int) * LG σ k := fun g => by
    have := Int.mul_le_mul_of_nonneg_left (c := (g : Int)) (a := 1) (b := LG σ k) (by omega) (by omega)
    omega
  refine lg_LongTrainModel_ring_64 (G := Nat) (fun g x5 x6 => x5 = eI g ∧ x6 = eI (a + b + ((g + 1 : Nat) : Int) * LG σ k) ∧ (g = 0 ∨ a + b + (g : Int) * LG σ k ≤ u)) (fun g => 10000 - g) ?_ 0 ⟨rfl, by congr 1; simp, Or.inl rfl⟩
  rintro kr g x5 x6 ⟨rfl, rfl, hg⟩ hs
  have h1 := hmul g
  have h2 := hge g
  have hg0 : g = 0 → (g : Int) * LG σ k = 0 := fun h => by subst h; simp
  unfold b_LongTrainModel_ring_64
  refine q_lt hu (by constructor <;> omega) (fun h => ?_) (fun h => ?_)
  · have e : (if u - a - b < 0 then 0 else (u - a - b) / LG σ k) = (g : Int) := by
      split
      · rename_i hneg
        rcases hg with rfl | hg
        · rfl
        · have : 0 ≤ (g : Int) * LG σ k := by omega
          omega
      · rename_i hpos
        have hlow : (g : Int) * LG σ k ≤ u - a - b := by omega
        have := Int.le_ediv_of_mul_le (a := (g : Int)) (b := u - a - b) (c := LG σ k) (by omega) hlow
        have h3 := Int.ediv_lt_of_lt_mul (a := u - a - b) (b := ((g + 1 : Nat) : Int)) (c := LG σ k) (by omega) (by omega)
        omega
    rw [e] at hq
    exact hq _ KP.u0
  · refine M_longOf d1 (by omega) ?_
    (try simp only [eI_lit, eI_neg, eI_add, eI_sub, eI_mul, eF_ap, upd_eF])
    have h3 := hge (g + 1)
    refine hs (g + 1) _ _ (by omega) ⟨by congr 1, ?_, Or.inr (by omega)⟩
    have h4 := hmul (g + 1)
    congr 1; omega
theorem C_ring {σ} (O : LOk σ) {il d : F32} (I : LnI σ il) (D : LnK σ d) {u a b k : Int} (hu : B31 u) (ha : B31 a) (hb : B31 b) (hk : B31 k) {Q : Int32 → Prop} (hq : Q (eI (ringS σ u a b k))) : w_LongTrain_ring il d (eI u) (eI a) (eI b) (eI k) Q := by
  have hc := O.kc
  unfold w_LongTrain_ring
  unfold ringS at hq
  have no : ¬ ((1 ≤ u ∧ u ≤ 9999) ∧ (1 ≤ a ∧ a ≤ 999) ∧ (1 ≤ b ∧ b ≤ 999) ∧ (0 ≤ k ∧ k < σ 3)) → j_LongTrain_ring_40 il d (eI u) (eI a) (eI b) (eI k) Q := fun hn => by
    rw [if_neg hn] at hq
    unfold j_LongTrain_ring_40 j_LongTrain_ring_41
    (first | refine z0T ?_ | refine z0N ?_); exact hq
  refine q_lt (b := 1) hu (by (first | exact B31_s (by omega) (by omega) | exact B31_of _ | (constructor <;> omega))) (fun h => no (by omega)) (fun a1 => ?_)
  refine q_lt (a := 9999) (by (first | exact B31_s (by omega) (by omega) | exact B31_of _ | (constructor <;> omega))) hu (fun h => no (by omega)) (fun a2 => ?_)
  refine q_lt (b := 1) ha (by (first | exact B31_s (by omega) (by omega) | exact B31_of _ | (constructor <;> omega))) (fun h => no (by omega)) (fun b1 => ?_)
  refine q_lt (a := 999) (by (first | exact B31_s (by omega) (by omega) | exact B31_of _ | (constructor <;> omega))) ha (fun h => no (by omega)) (fun b2 => ?_)
  refine q_lt (b := 1) hb (by (first | exact B31_s (by omega) (by omega) | exact B31_of _ | (constructor <;> omega))) (fun h => no (by omega)) (fun c1 => ?_)
  refine q_lt (a := 999) (by (first | exact B31_s (by omega) (by omega) | exact B31_of _ | (constructor <;> omega))) hb (fun h => no (by omega)) (fun c2 => ?_)
  unfold j_LongTrain_ring_41
  (first | refine z1T ?_ | refine z1N ?_)
  refine C_isKind O I hk (fun d1 d2 => ?_) (fun hn => ?_)
  · (first | refine z1T ?_ | refine z1N ?_)
    rw [if_pos (by omega)] at hq
    have hl := (O.kd k d1 d2).1
    refine L_longOf D d1 d2 (by omega) ?_
    (try simp only [eI_lit, eI_neg, eI_add, eI_sub, eI_mul, eF_ap, upd_eF])
    refine q_lt (by (first | exact B31_s (by omega) (by omega) | exact B31_of _ | (constructor <;> omega))) (by (first | exact B31_s (by omega) (by omega) | exact B31_of _ | (constructor <;> omega))) (fun h => ?_) (fun h => ?_)
    · rw [if_pos h] at hq; exact hq
    · rw [if_neg (by omega)] at hq
      refine q_lt (by (first | exact B31_s (by omega) (by omega) | exact B31_of _ | (constructor <;> omega))) (by (first | exact B31_s (by omega) (by omega) | exact B31_of _ | (constructor <;> omega))) (fun h2 => ?_) (fun h2 => by omega)
      refine ⟨fun hz => ?_, ?_⟩
      · have := (eI_eq (by (first | exact B31_s (by omega) (by omega) | exact B31_of _ | (constructor <;> omega))) (by (first | exact B31_s (by omega) (by omega) | exact B31_of _ | (constructor <;> omega)))).mp hz; omega
      · rw [eI_div (by omega) (by omega) (by omega) (by omega)]; exact hq
  · (first | refine z0T ?_ | refine z0N ?_)
    rw [if_neg (by omega)] at hq; exact hq
