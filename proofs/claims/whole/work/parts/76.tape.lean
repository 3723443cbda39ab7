/-! feed, end -/
def bC (x s : Int32) : Int32 := ushr x s &&& 255
def bR (x s : Int32) : Int32 := vp_nar .byte ((x >>> (s &&& 31))).toInt8.toInt32
theorem k255 : ∀ i : Fin 32, ¬ i.1 < 8 → (255#32)[i.1] = false := by decide
theorem bRC24 (x : Int32) : bR x 24 &&& 255 = bC x 24 := by
  unfold bR bC ushr
  rw [vp_nar_byte]
  apply Int32.toBitVec_inj.mp
  ext i hi
  simp
  by_cases h8 : i < 8
  · have h : 24 + i < 32 := by omega
    simp [BitVec.getElem_signExtend, BitVec.getElem_sshiftRight, h8, h, hi]
  · have := k255 ⟨i, hi⟩ h8
    simp only at this
    rw [this]; simp
theorem bRC16 (x : Int32) : bR x 16 &&& 255 = bC x 16 := by
  unfold bR bC ushr
  rw [vp_nar_byte]
  apply Int32.toBitVec_inj.mp
  ext i hi
  simp
  by_cases h8 : i < 8
  · have h : 16 + i < 32 := by omega
    simp [BitVec.getElem_signExtend, BitVec.getElem_sshiftRight, h8, h, hi]
  · have := k255 ⟨i, hi⟩ h8
    simp only at this
    rw [this]; simp
theorem bRC8 (x : Int32) : bR x 8 &&& 255 = bC x 8 := by
  unfold bR bC ushr
  rw [vp_nar_byte]
  apply Int32.toBitVec_inj.mp
  ext i hi
  simp
  by_cases h8 : i < 8
  · have h : 8 + i < 32 := by omega
    simp [BitVec.getElem_signExtend, BitVec.getElem_sshiftRight, h8, h, hi]
  · have := k255 ⟨i, hi⟩ h8
    simp only at this
    rw [this]; simp
theorem bRC0 (x : Int32) : bR x 0 &&& 255 = bC x 0 := by
  unfold bR bC ushr
  rw [vp_nar_byte]
  apply Int32.toBitVec_inj.mp
  ext i hi
  simp
  by_cases h8 : i < 8
  · simp [BitVec.getElem_signExtend, h8, hi]
  · have := k255 ⟨i, hi⟩ h8
    simp only at this
    rw [this]; simp
def t4 (b : Int32 → Int32 → Int32) (n : Nat) (x : Int32) (t : F32) : F32 := upd (upd (upd (upd t n (b x 24)) (n + 1) (b x 16)) (n + 2) (b x 8)) (n + 3) (b x 0)
theorem M_four {i t : F32} {n : Nat} (hn : n + 4 ≤ 940) (h2 : i 2 = eI n) {x : Int32} {Q : F32 → F32 → Prop} (hq : Q (upd i 2 (eI ((n + 4 : Nat) : Int))) (t4 bR n x t)) : w_LongTrainModel_four i t x Q := by
  unfold w_LongTrainModel_four
  refine lg_LongTrainModel_four_3 (G := Nat) (fun g x2 i' t' => (g = 0 ∧ x2 = 24 ∧ i' = i ∧ t' = t) ∨ (g = 1 ∧ x2 = 16 ∧ i' = upd i 2 (eI ((n + 1 : Nat) : Int)) ∧ t' = upd t n (bR x 24)) ∨ (g = 2 ∧ x2 = 8 ∧ i' = upd i 2 (eI ((n + 2 : Nat) : Int)) ∧ t' = upd (upd t n (bR x 24)) (n + 1) (bR x 16)) ∨ (g = 3 ∧ x2 = 0 ∧ i' = upd i 2 (eI ((n + 3 : Nat) : Int)) ∧ t' = upd (upd (upd t n (bR x 24)) (n + 1) (bR x 16)) (n + 2) (bR x 8)) ∨ (g = 4 ∧ x2 = -8 ∧ i' = upd i 2 (eI ((n + 4 : Nat) : Int)) ∧ t' = t4 bR n x t)) (fun g => 4 - g) ?_ 0 (Or.inl ⟨rfl, rfl, rfl, rfl⟩)
  rintro kr g x2 i' t' (⟨rfl, rfl, rfl, rfl⟩ | ⟨rfl, rfl, rfl, rfl⟩ | ⟨rfl, rfl, rfl, rfl⟩ | ⟨rfl, rfl, rfl, rfl⟩ | ⟨rfl, rfl, rfl, rfl⟩) hs
  · unfold b_LongTrainModel_four_3
    refine ⟨fun h => absurd h (by decide), fun _ => ?_⟩
    rw [h2]
    refine And.intro (eI_in (by omega) (by omega) (by omega)) ?_; (try simp (disch := omega) only [eI_cl, Int.toNat_natCast]); (try simp only [eI_lit, eI_neg, eI_add, eI_sub, eI_mul, eF_ap, upd_eF])
    exact hs 1 _ _ _ (by omega) (Or.inr (Or.inl ⟨rfl, rfl, rfl, rfl⟩))
  · unfold b_LongTrainModel_four_3
    refine ⟨fun h => absurd h (by decide), fun _ => ?_⟩
    rw [upd_s, upd_upd]
    refine And.intro (eI_in (by omega) (by omega) (by omega)) ?_; (try simp (disch := omega) only [eI_cl, Int.toNat_natCast]); (try simp only [eI_lit, eI_neg, eI_add, eI_sub, eI_mul, eF_ap, upd_eF])
    exact hs 2 _ _ _ (by omega) (Or.inr (Or.inr (Or.inl ⟨rfl, rfl, rfl, rfl⟩)))
  · unfold b_LongTrainModel_four_3
    refine ⟨fun h => absurd h (by decide), fun _ => ?_⟩
    rw [upd_s, upd_upd]
    refine And.intro (eI_in (by omega) (by omega) (by omega)) ?_; (try simp (disch := omega) only [eI_cl, Int.toNat_natCast]); (try simp only [eI_lit, eI_neg, eI_add, eI_sub, eI_mul, eF_ap, upd_eF])
    exact hs 3 _ _ _ (by omega) (Or.inr (Or.inr (Or.inr (Or.inl ⟨rfl, rfl, rfl, rfl⟩))))
  · unfold b_LongTrainModel_four_3
    refine ⟨fun h => absurd h (by decide), fun _ => ?_⟩
    rw [upd_s, upd_upd]
    refine And.intro (eI_in (by omega) (by omega) (by omega)) ?_; (try simp (disch := omega) only [eI_cl, Int.toNat_natCast]); (try simp only [eI_lit, eI_neg, eI_add, eI_sub, eI_mul, eF_ap, upd_eF])
    exact hs 4 _ _ _ (by omega) (Or.inr (Or.inr (Or.inr (Or.inr ⟨rfl, rfl, rfl, rfl⟩))))
  · unfold b_LongTrainModel_four_3
    exact ⟨fun _ => hq, fun h => absurd (by decide) h⟩
theorem C_put {i t : F32} {n : Nat} (hn : n + 4 ≤ 940) (h2 : i 1 = eI n) {x : Int32} {Q : F32 → F32 → Prop} (hq : Q (upd i 1 (eI ((n + 4 : Nat) : Int))) (t4 bC n x t)) : w_LongTrain_putNumber i t x Q := by
  unfold w_LongTrain_putNumber
  refine lg_LongTrain_putNumber_3 (G := Nat) (fun g x2 i' t' => (g = 0 ∧ x2 = 24 ∧ i' = i ∧ t' = t) ∨ (g = 1 ∧ x2 = 16 ∧ i' = upd i 1 (eI ((n + 1 : Nat) : Int)) ∧ t' = upd t n (bC x 24)) ∨ (g = 2 ∧ x2 = 8 ∧ i' = upd i 1 (eI ((n + 2 : Nat) : Int)) ∧ t' = upd (upd t n (bC x 24)) (n + 1) (bC x 16)) ∨ (g = 3 ∧ x2 = 0 ∧ i' = upd i 1 (eI ((n + 3 : Nat) : Int)) ∧ t' = upd (upd (upd t n (bC x 24)) (n + 1) (bC x 16)) (n + 2) (bC x 8)) ∨ (g = 4 ∧ x2 = -8 ∧ i' = upd i 1 (eI ((n + 4 : Nat) : Int)) ∧ t' = t4 bC n x t)) (fun g => 4 - g) ?_ 0 (Or.inl ⟨rfl, rfl, rfl, rfl⟩)
  rintro kr g x2 i' t' (⟨rfl, rfl, rfl, rfl⟩ | ⟨rfl, rfl, rfl, rfl⟩ | ⟨rfl, rfl, rfl, rfl⟩ | ⟨rfl, rfl, rfl, rfl⟩ | ⟨rfl, rfl, rfl, rfl⟩) hs
  · unfold b_LongTrain_putNumber_3
    refine ⟨fun h => absurd h (by decide), fun _ => ?_⟩
    rw [h2]
    refine q_le (a := 940) (by (first | exact B31_s (by omega) (by omega) | exact B31_of _ | (constructor <;> omega))) (by (first | exact B31_s (by omega) (by omega) | exact B31_of _ | (constructor <;> omega))) (fun h => by omega) (fun _ => ?_)
    refine And.intro (eI_in (by omega) (by omega) (by omega)) ?_; (try simp (disch := omega) only [eI_cl, Int.toNat_natCast]); (try simp only [eI_lit, eI_neg, eI_add, eI_sub, eI_mul, eF_ap, upd_eF])
    exact hs 1 _ _ _ (by omega) (Or.inr (Or.inl ⟨rfl, rfl, rfl, rfl⟩))
  · unfold b_LongTrain_putNumber_3
    refine ⟨fun h => absurd h (by decide), fun _ => ?_⟩
    rw [upd_s, upd_upd]
    refine q_le (a := 940) (by (first | exact B31_s (by omega) (by omega) | exact B31_of _ | (constructor <;> omega))) (by (first | exact B31_s (by omega) (by omega) | exact B31_of _ | (constructor <;> omega))) (fun h => by omega) (fun _ => ?_)
    refine And.intro (eI_in (by omega) (by omega) (by omega)) ?_; (try simp (disch := omega) only [eI_cl, Int.toNat_natCast]); (try simp only [eI_lit, eI_neg, eI_add, eI_sub, eI_mul, eF_ap, upd_eF])
    exact hs 2 _ _ _ (by omega) (Or.inr (Or.inr (Or.inl ⟨rfl, rfl, rfl, rfl⟩)))
  · unfold b_LongTrain_putNumber_3
    refine ⟨fun h => absurd h (by decide), fun _ => ?_⟩
    rw [upd_s, upd_upd]
    refine q_le (a := 940) (by (first | exact B31_s (by omega) (by omega) | exact B31_of _ | (constructor <;> omega))) (by (first | exact B31_s (by omega) (by omega) | exact B31_of _ | (constructor <;> omega))) (fun h => by omega) (fun _ => ?_)
    refine And.intro (eI_in (by omega) (by omega) (by omega)) ?_; (try simp (disch := omega) only [eI_cl, Int.toNat_natCast]); (try simp only [eI_lit, eI_neg, eI_add, eI_sub, eI_mul, eF_ap, upd_eF])
    exact hs 3 _ _ _ (by omega) (Or.inr (Or.inr (Or.inr (Or.inl ⟨rfl, rfl, rfl, rfl⟩))))
  · unfold b_LongTrain_putNumber_3
    refine ⟨fun h => absurd h (by decide), fun _ => ?_⟩
    rw [upd_s, upd_upd]
    refine q_le (a := 940) (by (first | exact B31_s (by omega) (by omega) | exact B31_of _ | (constructor <;> omega))) (by (first | exact B31_s (by omega) (by omega) | exact B31_of _ | (constructor <;> omega))) (fun h => by omega) (fun _ => ?_)
    refine And.intro (eI_in (by omega) (by omega) (by omega)) ?_; (try simp (disch := omega) only [eI_cl, Int.toNat_natCast]); (try simp only [eI_lit, eI_neg, eI_add, eI_sub, eI_mul, eF_ap, upd_eF])
    exact hs 4 _ _ _ (by omega) (Or.inr (Or.inr (Or.inr (Or.inr ⟨rfl, rfl, rfl, rfl⟩))))
  · unfold b_LongTrain_putNumber_3
    exact ⟨fun _ => hq, fun h => absurd (by decide) h⟩
/-- the tapes of class and reference, up to n -/
def Tp (n : Nat) (tc tr : F32) : Prop := ∀ j, j < n → tc j = tr j &&& 255
theorem Tp.f4 {n : Nat} {tc tr : F32} (h : Tp n tc tr) (x : Int32) : Tp (n + 4) (t4 bC n x tc) (t4 bR n x tr) := by
  intro j hj
  unfold t4
  by_cases e3 : j = n + 3
  · subst e3; rw [upd_s, upd_s]; exact (bRC0 x).symm
  · rw [upd_n e3, upd_n e3]
    by_cases e2 : j = n + 2
    · subst e2; rw [upd_s, upd_s]; exact (bRC8 x).symm
    · rw [upd_n e2, upd_n e2]
      by_cases e1 : j = n + 1
      · subst e1; rw [upd_s, upd_s]; exact (bRC16 x).symm
      · rw [upd_n e1, upd_n e1]
        by_cases e0 : j = n
        · subst e0; rw [upd_s, upd_s]; exact (bRC24 x).symm
        · rw [upd_n e0, upd_n e0]; exact h j (by omega)
theorem Tp.le {n m : Nat} {tc tr : F32} (h : Tp n tc tr) (hm : m ≤ n) : Tp m tc tr := fun j hj => h j (by omega)
def f5 (b : Int32 → Int32 → Int32) (n : Nat) (x1 x2 x3 x4 x5 : Int32) (t : F32) : F32 := t4 b (n + 4 + 4 + 4 + 4) x5 (t4 b (n + 4 + 4 + 4) x4 (t4 b (n + 4 + 4) x3 (t4 b (n + 4) x2 (t4 b n x1 t))))
theorem Tp.f5 {n : Nat} {tc tr : F32} (h : Tp n tc tr) (x1 x2 x3 x4 x5 : Int32) : Tp (n + 20) (f5 bC n x1 x2 x3 x4 x5 tc) (f5 bR n x1 x2 x3 x4 x5 tr) := ((((h.f4 x1).f4 x2).f4 x3).f4 x4).f4 x5
/-- as KP, but the tape's length is another -/
def KL (i i' : F32) : Prop := ∀ k, k = 15 ∨ k = 33 ∨ k = 38 ∨ k = 44 → i' k = i k
theorem M_feed {i t : F32} {n : Nat} (hn : n ≤ 940) (h2 : i 2 = eI n) {x1 x2 x3 x4 x5 : Int32} {Q : Int32 → F32 → F32 → Prop} (h0 : 940 < n + 20 → ∀ i', KP i i' → Q (-1) i' t) (hq : n + 20 ≤ 940 → ∀ i', KL i i' → i' 2 = eI ((n + 20 : Nat) : Int) → Q (eI ((n + 20 : Nat) : Int)) i' (f5 bR n x1 x2 x3 x4 x5 t)) : w_LongTrainModel_feed i t x1 x2 x3 x4 x5 Q := by
  unfold w_LongTrainModel_feed
  rw [upd_n (by omega), h2]
  (try simp only [eI_lit, eI_neg, eI_add, eI_sub, eI_mul, eF_ap, upd_eF])
  refine q_le (by (first | exact B31_s (by omega) (by omega) | exact B31_of _ | (constructor <;> omega))) (by (first | exact B31_s (by omega) (by omega) | exact B31_of _ | (constructor <;> omega))) (fun h => ?_) (fun h => h0 (by omega) _ KP.u0)
  refine M_four (n := n) (by omega) (by rw [upd_n (by omega), h2]) ?_
  rw [← (rfl : eI ((n + 4 : Nat) : Int) = eI ((n + 4 : Nat) : Int))]
  refine M_four (n := n + 4) (by omega) upd_s ?_
  refine M_four (n := n + 4 + 4) (by omega) upd_s ?_
  refine M_four (n := n + 4 + 4 + 4) (by omega) upd_s ?_
  refine M_four (n := n + 4 + 4 + 4 + 4) (by omega) upd_s ?_
  rw [upd_s]
  refine hq (by omega) _ (fun k hk => ?_) upd_s
  rw [upd_n (by omega), upd_n (by omega), upd_n (by omega), upd_n (by omega), upd_n (by omega), upd_n (by omega)]
theorem C_feed {i t : F32} {n : Nat} (hn : n ≤ 940) (h2 : i 1 = eI n) {x1 x2 x3 x4 x5 : Int32} {Q : Int32 → F32 → F32 → Prop} (h0 : 940 < n + 20 → Q (-1) i t) (hq : n + 20 ≤ 940 → ∀ i', i' 2 = i 2 → i' 1 = eI ((n + 20 : Nat) : Int) → Q (eI ((n + 20 : Nat) : Int)) i' (f5 bC n x1 x2 x3 x4 x5 t)) : w_LongTrain_feed i t x1 x2 x3 x4 x5 Q := by
  unfold w_LongTrain_feed
  rw [h2]
  (try simp only [eI_lit, eI_neg, eI_add, eI_sub, eI_mul, eF_ap, upd_eF])
  refine q_le (by (first | exact B31_s (by omega) (by omega) | exact B31_of _ | (constructor <;> omega))) (by (first | exact B31_s (by omega) (by omega) | exact B31_of _ | (constructor <;> omega))) (fun h => ?_) (fun h => h0 (by omega))
  refine C_put (n := n) (by omega) h2 ?_
  refine C_put (n := n + 4) (by omega) upd_s ?_
  refine C_put (n := n + 4 + 4) (by omega) upd_s ?_
  refine C_put (n := n + 4 + 4 + 4) (by omega) upd_s ?_
  refine C_put (n := n + 4 + 4 + 4 + 4) (by omega) upd_s ?_
  rw [upd_s]
  refine hq (by omega) _ ?_ upd_s
  rw [upd_n (by omega), upd_n (by omega), upd_n (by omega), upd_n (by omega), upd_n (by omega)]
theorem M_end {i : F32} {n : Nat} {v : Int} (hn : n ≤ 940) (h2 : i 2 = eI n) (hv : B31 v) {Q : Int32 → F32 → Prop} (h0 : ¬ (0 ≤ v ∧ v ≤ n) → ∀ i', KP i i' → Q 0 i') (hq : 0 ≤ v ∧ v ≤ n → ∀ i', KL i i' → i' 2 = eI v → Q 1 i') : w_LongTrainModel_end i (eI v) Q := by
  unfold w_LongTrainModel_end
  rw [upd_n (by omega), h2]
  refine q_lt (b := 0) hv (by (first | exact B31_s (by omega) (by omega) | exact B31_of _ | (constructor <;> omega))) (fun h => h0 (by omega) _ KP.u0) (fun a1 => ?_)
  refine q_le hv (by (first | exact B31_s (by omega) (by omega) | exact B31_of _ | (constructor <;> omega))) (fun a2 => ?_) (fun h => h0 (by omega) _ KP.u0)
  refine hq ⟨a1, a2⟩ _ (fun k hk => ?_) upd_s
  rw [upd_n (by omega), upd_n (by omega)]
theorem C_end {i : F32} {n : Nat} {v : Int} (hn : n ≤ 940) (h2 : i 1 = eI n) (hv : B31 v) {Q : Int32 → F32 → Prop} (h0 : ¬ (0 ≤ v ∧ v ≤ n) → Q 0 i) (hq : 0 ≤ v ∧ v ≤ n → ∀ i', i' 2 = i 2 → i' 1 = eI v → Q 1 i') : w_LongTrain_end i (eI v) Q := by
  unfold w_LongTrain_end
  rw [h2]
  refine q_lt (b := 0) hv (by (first | exact B31_s (by omega) (by omega) | exact B31_of _ | (constructor <;> omega))) (fun h => h0 (by omega)) (fun a1 => ?_)
  refine q_le hv (by (first | exact B31_s (by omega) (by omega) | exact B31_of _ | (constructor <;> omega))) (fun a2 => ?_) (fun h => h0 (by omega))
  exact hq ⟨a1, a2⟩ _ (upd_n (by omega)) upd_s
