/-! the reference's small methods -/
theorem M_isIn {a b c : Int} {Q : Int32 → Prop} (ha : B31 a) (hb : B31 b) (hc : B31 c) (h1 : b ≤ a → a ≤ c → Q 1) (h0 : ¬ (b ≤ a ∧ a ≤ c) → Q 0) : w_LongTrainModel_isIn (eI a) (eI b) (eI c) Q := by
  unfold w_LongTrainModel_isIn
  refine q_lt ha hb (fun h => h0 (by omega)) (fun h => ?_)
  exact q_lt hc ha (fun h' => h0 (by omega)) (fun h' => h1 (by omega) (by omega))
theorem M_gradeOf {s : Nat → Int} {u : Int} {Q : Int32 → Prop} (hu : -100000 ≤ u) (hu2 : u < 400) (h : Q (eI (if u < 0 then 0 else s (11 + u.toNat)))) : w_LongTrainModel_gradeOf (eF s) (eI u) Q := by
  unfold w_LongTrainModel_gradeOf
  simp only [eI_lit, eI_add, eF_ap]
  refine q_ge0 (B31_s (by omega) (by omega)) (fun h1 => ?_) (fun h1 => ?_)
  · refine ⟨eI_in (by omega) (by omega) (by omega), ?_⟩
    rw [eI_cl (by omega) (by omega)]
    rw [if_neg (by omega)] at h
    have e1 : (11 + u).toNat = 11 + u.toNat := by omega
    rw [e1]
    exact h
  · rw [if_pos h1] at h
    exact h
