/-! line: all rows -/
noncomputable def lnS (e : TXX) : Nat → Nat → Nat → LRS → RS
  | 0, _, m, S => (0, m, S.h)
  | g + 1, p, m, S => if oK e p = 0 then (if e.2.1 ≤ e.2.2 then (0, m, S.h) else flt 1 (oP e p)) else rowS e p S (fun p' S' => if p + 2 ≤ p' then lnS e g p' (m + 1) S' else flt 9 9)
theorem lnS_P {e : TXX} : ∀ (g p m : Nat) (S : LRS), P4 (lnS e g p m S)
  | 0, p, m, S => by rw [lnS]; exact Nat.zero_le _
  | g + 1, p, m, S => by
    rw [lnS]
    refine ite_P (fun _ => ite_P (fun _ => Nat.zero_le _) (fun _ => flt_P (by omega))) (fun _ => rowS_P (fun p' S' hp => ?_))
    rw [if_pos hp]; exact lnS_P g p' (m + 1) S'
theorem P4.n {r : RS} (h : P4 r) (h9 : r = flt 9 9) : False := by
  rw [h9] at h
  have : (9 : Nat) ≤ 4 := h
  omega
theorem rowS_e {e : TXX} {p : Nat} {S : LRS} {k : Nat → LRS → RS} (h : oK e p ≠ 1) : rowS e p S k = flt 1 (oP e p) := by
  have e1 : kwd e p = -1 := kwd_n.mpr (fun h1 => h h1.1)
  exact rowS_x (by omega)
def plH (z : Nat → Int) : Nat → Int := fun q => if q < 483 then (if q = 4 then 100 else if q = 5 then 10 else if q = 6 then 1 else if q = 7 then 10 else if q = 8 then 10 else if q = 9 then 2 else 0) else z q
theorem plH_0 {z : Nat → Int} {q : Nat} (h : q < 483) (h2 : q < 4 ∨ 9 < q) : plH z q = 0 := by
  unfold plH
  rw [if_pos h, if_neg (by omega), if_neg (by omega), if_neg (by omega), if_neg (by omega), if_neg (by omega), if_neg (by omega)]
theorem plH_4 {z : Nat → Int} : plH z 4 = 100 := rfl
theorem plH_5 {z : Nat → Int} : plH z 5 = 10 := rfl
theorem plH_6 {z : Nat → Int} : plH z 6 = 1 := rfl
theorem plH_7 {z : Nat → Int} : plH z 7 = 10 := rfl
theorem plH_8 {z : Nat → Int} : plH z 8 = 10 := rfl
theorem plH_9 {z : Nat → Int} : plH z 9 = 2 := rfl
theorem plH_ok {z : Nat → Int} : LOk (plH z) := by
  have e0 : plH z 0 = 0 := plH_0 (by omega) (by omega)
  have e1 : plH z 1 = 0 := plH_0 (by omega) (by omega)
  have e2 : plH z 2 = 0 := plH_0 (by omega) (by omega)
  have e3 : plH z 3 = 0 := plH_0 (by omega) (by omega)
  have e10 : plH z 10 = 0 := plH_0 (by omega) (by omega)
  refine ⟨by omega, by omega, by omega, by omega, by rw [plH_4]; omega, by rw [plH_5]; omega, by rw [plH_6]; omega, by rw [plH_7]; omega, by rw [plH_8]; omega, by rw [plH_9]; omega, by omega, fun j hj => ?_, fun k hk => by omega, fun k hk => by omega, fun k hk => by omega, fun j k hjk hk => by omega, fun k hk => by omega, fun k h0 hk => by omega, fun k hk => by omega⟩
  rw [plH_0 (by omega) (by omega)]; omega
def S0 (z : Nat → Int) : LRS := (plH z, fun _ => 0, fun _ => 0, 0, fun _ => false)
theorem S0_k {z : Nat → Int} : LSk (S0 z) := by
  have e1 : plH z 1 = 0 := plH_0 (by omega) (by omega)
  have e3 : plH z 3 = 0 := plH_0 (by omega) (by omega)
  have e10 : plH z 10 = 0 := plH_0 (by omega) (by omega)
  refine ⟨plH_ok, Nat.zero_le _, fun k hk => ?_, fun k hk => ?_, fun _ => e10⟩
  · have hk' : (k : Int) < plH z 1 := hk
    omega
  · have hk' : (k : Int) < plH z 3 := hk
    omega
def zrH (z : Nat → Int) (g : Nat) : Nat → Int := fun q => if q < g then 0 else z q
theorem M_plain {hA : F32} {Q : F32 → Prop} (hq : Q (eF (plH (fun q => (hA q).toInt)))) : w_LongTrainModel_plainLine hA Q := by
  unfold w_LongTrainModel_plainLine
  generalize hz : (fun q => (hA q).toInt) = z at *
  refine lg_LongTrainModel_plainLine_2 (G := Nat) (fun g x h' => g ≤ 483 ∧ x = eI ((g : Nat) : Int) ∧ h' = eF (zrH z g)) (fun g => 483 - g) ?_ 0 ⟨by omega, rfl, ?_⟩
  · rintro kr g x h' ⟨hg, rfl, rfl⟩ hst
    unfold b_LongTrainModel_plainLine_2
    refine q_le (a := 483) (by (first | exact B31_s (by omega) (by omega) | exact B31_of _ | (constructor <;> omega))) (by (first | exact B31_s (by omega) (by omega) | exact B31_of _ | (constructor <;> omega))) (fun h => ?_) (fun h => ?_)
    · have eg : g = 483 := by omega
      subst eg
      have t1 : (100 : Int32) = eI 100 := rfl
      have t2 : (10 : Int32) = eI 10 := rfl
      have t3 : (1 : Int32) = eI 1 := rfl
      have t4 : (2 : Int32) = eI 2 := rfl
      show Q (upd (upd (upd (upd (upd (upd (eF (zrH z 483)) 4 100) 5 10) 6 1) 7 10) 8 10) 9 2)
      rw [t1, t2, t3, t4, upd_eF, upd_eF, upd_eF, upd_eF, upd_eF, upd_eF]
      have ee : updI (updI (updI (updI (updI (updI (zrH z 483) 4 100) 5 10) 6 1) 7 10) 8 10) 9 2 = plH z := by
        funext q
        unfold updI plH zrH
        by_cases h9 : q = 9
        · subst h9; rfl
        rw [if_neg h9]
        by_cases h8 : q = 8
        · subst h8; rfl
        rw [if_neg h8]
        by_cases h7 : q = 7
        · subst h7; rfl
        rw [if_neg h7]
        by_cases h6 : q = 6
        · subst h6; rfl
        rw [if_neg h6]
        by_cases h5 : q = 5
        · subst h5; rfl
        rw [if_neg h5]
        by_cases h4 : q = 4
        · subst h4; rfl
        rw [if_neg h4, if_neg h4, if_neg h5, if_neg h6, if_neg h7, if_neg h8, if_neg h9]
      rw [ee]; exact hq
    · refine And.intro (eI_in (by omega) (by omega) (by omega)) ?_; (try simp (disch := omega) only [eI_cl, Int.toNat_natCast])
      have t0 : (0 : Int32) = eI 0 := rfl
      rw [t0, upd_eF]
      refine hst (g + 1) _ _ (by omega) ⟨by omega, by (try simp only [eI_lit, eI_neg, eI_add, eI_sub, eI_mul, eF_ap, upd_eF]); congr 1, ?_⟩
      congr 1
      funext q
      unfold updI zrH
      by_cases e1 : q = g
      · rw [if_pos e1, if_pos (by omega)]
      · rw [if_neg e1]
        by_cases e2 : q < g
        · rw [if_pos e2, if_pos (by omega)]
        · rw [if_neg e2, if_neg (by omega)]
  · rw [← hz]
    funext q
    rw [eF_ap]
    unfold zrH
    rw [if_neg (by omega), eI_of]
/-! the line as it stands then -/
def lnC (h σ : Nat → Int) (k : Nat) : Nat → Int := fun q => if q < k then (if q < 483 then h q else 0) else σ q
theorem lnC_u {h σ : Nat → Int} {k : Nat} : updI (lnC h σ k) k (if k < 483 then h k else 0) = lnC h σ (k + 1) := by
  funext q
  unfold updI lnC
  by_cases e1 : q = k
  · rw [if_pos e1, e1, if_pos (show k < k + 1 by omega)]
  · rw [if_neg e1]
    by_cases e2 : q < k
    · rw [if_pos e2, if_pos (show q < k + 1 by omega)]
    · rw [if_neg e2, if_neg (show ¬ q < k + 1 by omega)]
def lnG (h σ : Nat → Int) (k : Nat) : Nat → Int := fun q => if 495 ≤ q ∧ q < 495 + k then h (q - 20) else updI (lnC h σ 1068) 484 (h 10) q
theorem lnG_0 {h σ : Nat → Int} : lnG h σ 0 = updI (lnC h σ 1068) 484 (h 10) := by funext q; unfold lnG; rw [if_neg (by omega)]
theorem lnG_u {h σ : Nat → Int} {k : Nat} : updI (lnG h σ k) (495 + k) (h (475 + k)) = lnG h σ (k + 1) := by
  funext q
  unfold updI lnG
  by_cases e1 : q = 495 + k
  · have e2 : q - 20 = 475 + k := by omega
    rw [if_pos e1, if_pos (by omega), e2]
  · rw [if_neg e1]
    by_cases e2 : 495 ≤ q ∧ q < 495 + k
    · rw [if_pos e2, if_pos (show 495 ≤ q ∧ q < 495 + (k + 1) by omega)]
    · rw [if_neg e2, if_neg (show ¬ (495 ≤ q ∧ q < 495 + (k + 1)) by omega)]
theorem lnG_l {h σ : Nat → Int} {k q : Nat} (hq : q < 483) : lnG h σ k q = h q := by
  unfold lnG
  rw [if_neg (by omega), updI_n _ (by omega)]
  unfold lnC
  rw [if_pos (by omega), if_pos hq]
theorem lnG_m {h σ : Nat → Int} {k : Nat} : lnG h σ k 484 = h 10 := by
  unfold lnG
  rw [if_neg (by omega), updI_s]
theorem lnG_w {h σ : Nat → Int} {k q : Nat} (hq : q < k) : lnG h σ k (495 + q) = h (475 + q) := by
  have e2 : 495 + q - 20 = 475 + q := by omega
  unfold lnG
  rw [if_pos (by omega), e2]
theorem lnG_z {h σ : Nat → Int} {k q : Nat} (h1 : 483 ≤ q) (h2 : q < 1068) (h3 : q ≠ 484) (h4 : q < 495 ∨ 495 + k ≤ q) : lnG h σ k q = 0 := by
  unfold lnG
  rw [if_neg (by omega), updI_n _ h3]
  unfold lnC
  rw [if_pos h2, if_neg (by omega)]
def lnF (h σ : Nat → Int) : Nat → Int := lnG h σ (h 10).toNat
theorem KLr.k1 {i i' : F32} (h : KLr i i') : KN1 i i' := ⟨h.1, h.2.2.1, h.2.2.2.1, h.2.2.2.2⟩
abbrev QML := Int32 → F32 → (Nat → Int64) → F32 → (Nat → Int64) → F32 → Prop
theorem M_lnEnd {h σ : Nat → Int} (O : LOk h) {hA : F32} (hh : hA = eF h) {nm : Nat → Int64} {Q : (Nat → Int64) → F32 → Prop} (hq : ∀ nm', Q nm' (eF (lnF h σ))) : ∃ n_41 : Nat, lp_LongTrainModel_line_85 hA (fun (r_t_s_27 : Nat → Int32) => (∃ n_40 : Nat, lp_LongTrainModel_line_123 (fun (r_t_names_31 : Nat → Int64) => (∃ n_39 : Nat, lp_LongTrainModel_line_167 (fun (r_t_s_38 : Nat → Int32) => (Q r_t_names_31 r_t_s_38)) n_39 (0 : Int32) (upd r_t_s_27 484 (r_t_s_27 10)))) n_40 (0 : Int32) nm)) n_41 (0 : Int32) (eF σ) := by
  have hfc := O.fc
  refine lg_LongTrainModel_line_85 (G := Nat) (fun g x s' => g ≤ 1068 ∧ x = eI ((g : Nat) : Int) ∧ s' = eF (lnC h σ g)) (fun g => 1068 - g) ?_ 0 ⟨by omega, rfl, ?_⟩
  · rintro kr g x s' ⟨hg, rfl, rfl⟩ hst
    unfold b_LongTrainModel_line_85
    refine q_le (a := 1068) (by (first | exact B31_s (by omega) (by omega) | exact B31_of _ | (constructor <;> omega))) (by (first | exact B31_s (by omega) (by omega) | exact B31_of _ | (constructor <;> omega))) (fun hle => ?_) (fun hlt => ?_)
    · have eg : g = 1068 := by omega
      subst eg
      refine lg_LongTrainModel_line_123 (G := Nat) (fun g x nm' => g ≤ 16 ∧ x = eI ((g : Nat) : Int)) (fun g => 16 - g) ?_ 0 ⟨by omega, rfl⟩
      rintro kr2 g x nm' ⟨hg2, rfl⟩ hst2
      unfold b_LongTrainModel_line_123
      refine q_le (a := 16) (by (first | exact B31_s (by omega) (by omega) | exact B31_of _ | (constructor <;> omega))) (by (first | exact B31_s (by omega) (by omega) | exact B31_of _ | (constructor <;> omega))) (fun h16 => ?_) (fun h16 => ?_)
      · have e10 : eF (lnC h σ 1068) 10 = eI (h 10) := by
          rw [eF_ap]; unfold lnC; rw [if_pos (by omega), if_pos (by omega)]
        rw [e10, upd_eF, ← lnG_0]
        refine lg_LongTrainModel_line_167 (G := Nat) (fun k x s' => (k : Int) ≤ h 10 ∧ x = eI ((k : Nat) : Int) ∧ s' = eF (lnG h σ k)) (fun k => (h 10).toNat - k) ?_ 0 ⟨by omega, rfl, rfl⟩
        rintro kr3 k x s' ⟨hk, rfl, rfl⟩ hst3
        unfold b_LongTrainModel_line_167
        have e11 : eF (lnG h σ k) 10 = eI (h 10) := by rw [eF_ap, lnG_l (by omega)]
        rw [e11]
        refine q_le (by (first | exact B31_s (by omega) (by omega) | exact B31_of _ | (constructor <;> omega))) (by (first | exact B31_s (by omega) (by omega) | exact B31_of _ | (constructor <;> omega))) (fun h7 => ?_) (fun h7 => ?_)
        · have ek : k = (h 10).toNat := by omega
          subst ek
          exact hq _
        · have e1 : (475 : Int32) + eI (k : Int) = eI ((475 + k : Nat) : Int) := by (try simp only [eI_lit, eI_neg, eI_add, eI_sub, eI_mul, eF_ap, upd_eF]); congr 1
          have e2 : (495 : Int32) + eI (k : Int) = eI ((495 + k : Nat) : Int) := by (try simp only [eI_lit, eI_neg, eI_add, eI_sub, eI_mul, eF_ap, upd_eF]); congr 1
          rw [e1, e2]
          refine And.intro (eI_in (by omega) (by omega) (by omega)) ?_
          refine And.intro (eI_in (by omega) (by omega) (by omega)) ?_
          (try simp (disch := omega) only [eI_cl, Int.toNat_natCast])
          rw [eF_ap, lnG_l (by omega), upd_eF, lnG_u]
          exact hst3 (k + 1) _ _ (by omega) ⟨by omega, by (try simp only [eI_lit, eI_neg, eI_add, eI_sub, eI_mul, eF_ap, upd_eF]); congr 1, rfl⟩
      · have e1 : (16 : Int32) + eI (g : Int) = eI ((16 + g : Nat) : Int) := by (try simp only [eI_lit, eI_neg, eI_add, eI_sub, eI_mul, eF_ap, upd_eF]); congr 1
        rw [e1]
        refine And.intro (eI_in (by omega) (by omega) (by omega)) ?_
        refine And.intro (eI_in (by omega) (by omega) (by omega)) ?_
        exact hst2 (g + 1) _ _ (by omega) ⟨by omega, by (try simp only [eI_lit, eI_neg, eI_add, eI_sub, eI_mul, eF_ap, upd_eF]); congr 1⟩
    · refine q_le (a := 483) (by (first | exact B31_s (by omega) (by omega) | exact B31_of _ | (constructor <;> omega))) (by (first | exact B31_s (by omega) (by omega) | exact B31_of _ | (constructor <;> omega))) (fun h4 => ?_) (fun h4 => ?_)
      · refine And.intro (eI_in (by omega) (by omega) (by omega)) ?_; (try simp (disch := omega) only [eI_cl, Int.toNat_natCast])
        have t0 : (0 : Int32) = eI (if g < 483 then h g else 0) := by rw [if_neg (by omega)]; rfl
        rw [t0, upd_eF, lnC_u]
        exact hst (g + 1) _ _ (by omega) ⟨by omega, by (try simp only [eI_lit, eI_neg, eI_add, eI_sub, eI_mul, eF_ap, upd_eF]); congr 1, rfl⟩
      · refine And.intro (eI_in (by omega) (by omega) (by omega)) ?_
        refine And.intro (eI_in (by omega) (by omega) (by omega)) ?_
        (try simp (disch := omega) only [eI_cl, Int.toNat_natCast])
        have t0 : hA g = eI (if g < 483 then h g else 0) := by rw [if_pos (by omega), hh, eF_ap]
        rw [t0, upd_eF, lnC_u]
        exact hst (g + 1) _ _ (by omega) ⟨by omega, by (try simp only [eI_lit, eI_neg, eI_add, eI_sub, eI_mul, eF_ap, upd_eF]); congr 1, rfl⟩
  · congr 1
theorem M_line {e : TXX} (X : TK e) (he : e.2.2 = 900) {i t hA : F32} {j nm rv : Nat → Int64} {σ z : Nat → Int} (hz : z = fun q => (hA q).toInt) (ht : ∀ q, q < e.2.1 → t q &&& 255 = eI (e.1 q)) (hrv : RSV rv) (h2 : i 2 = eI e.2.1) {Q : QML}
    (bad : ∀ i' j' h' nm', RFl (lnS e 941 0 0 (S0 z)) i' → KQ i i' → Q (-1 - i' 16) i' j' h' nm' (eF σ))
    (ok : ∀ i' j' h' nm' m S, lnS e 941 0 0 (S0 z) = (0, m, S.h) → LSk S → m ≤ 470 → i' 15 = 0 → KQ i i' → Q (eI m) i' j' h' nm' (eF (lnF S.h σ))) : w_LongTrainModel_line i j hA t rv nm (eF σ) Q := by
  have hn := X.t.n
  unfold w_LongTrainModel_line w_LongTrainModel_taken
  rw [upd_n (by omega), h2]
  refine M_plain ?_
  rw [← hz]
  show w_LongTrainModel_next (upd (upd (upd (upd (upd (upd (upd (upd (upd i 0 0) 3 (eI e.2.1)) 2 0) 4 0) 5 900) 15 0) 19 0) 20 0) 21 0) j t _
  generalize hi0 : upd (upd (upd (upd (upd (upd (upd (upd (upd i 0 0) 3 (eI e.2.1)) 2 0) 4 0) 5 900) 15 0) 19 0) 20 0) 21 0 = i0
  have g2 : i0 2 = 0 := by rw [← hi0]; simp [upd]
  have g33 : i0 33 = i 33 := by rw [← hi0]; simp [upd]
  have g38 : i0 38 = i 38 := by rw [← hi0]; simp [upd]
  have g44 : i0 44 = i 44 := by rw [← hi0]; simp [upd]
  have KQ_of : ∀ {i' : F32}, KN1 i0 i' → KQ i i' := fun h => ⟨h.1.trans g2, h.2.1.trans g33, h.2.2.1.trans g38, h.2.2.2.trans g44⟩
  have r0 : RNx e 0 i0 := by
    rw [← hi0]
    refine ⟨by simp [upd], ?_, ?_, Nat.zero_le _, by simp [upd]⟩
    · simp [upd]; rw [he]; rfl
    · simp [upd]; rfl
  have r19 : i0 19 = eI ((0 : Nat) : Int) := by rw [← hi0]; simp [upd]; rfl
  have r20 : i0 20 = eI ((0 : Nat) : Int) := by rw [← hi0]; simp [upd]; rfl
  have r21 : i0 21 = 0 := by rw [← hi0]; simp [upd]
  clear hi0
  have zz1 : plH z 1 = 0 := plH_0 (by omega) (by omega)
  have zz3 : plH z 3 = 0 := plH_0 (by omega) (by omega)
  refine M_nxt X ht r0 (fun i1 j1 R1 K1 _ => ?_)
  have M0 : MR (S0 z) i1 (eF (plH z)) nm := by
    refine ⟨rfl, by rw [K1.at_ (by omega)]; exact r20, fun k hk => ?_, fun k hk => ?_, fun k hk => ?_⟩
    · rw [K1.at_ (q := 21) (by omega), r21]
      show (0 : Int32).toBitVec.getLsbD k = false
      simp
    · have hk' : (k : Int) < plH z 1 := hk
      omega
    · have hk' : (k : Int) < plH z 3 := hk
      omega
  have hP := lnS_P (e := e) 941 0 0 (S0 z)
  refine lg_LongTrainModel_line_40 (G := Nat) (fun g i' j' h' nm' => ∃ p m S, 941 ≤ g + p ∧ p ≤ e.2.1 ∧ 2 * m ≤ p ∧ lnS e 941 0 0 (S0 z) = lnS e g p m S ∧ LSk S ∧ RLd e p i' j' ∧ MR S i' h' nm' ∧ i' 19 = eI ((m : Nat) : Int) ∧ KN1 i0 i') (fun g => g) ?_ 941 ⟨0, 0, S0 z, by omega, by omega, by omega, rfl, S0_k, R1, M0, by rw [K1.at_ (by omega)]; exact r19, K1.k1⟩
  rintro kr g i' j' h' nm' ⟨p, m, S, hgp, hpn, hmp, hE, L, R, M, h19, KK⟩ hst
  generalize lnS e 941 0 0 (S0 z) = r at *
  obtain ⟨g', rfl⟩ : ∃ g', g = g' + 1 := ⟨g - 1, by omega⟩
  have hrs := rso_1 (e := e) (oK_le e p)
  unfold b_LongTrainModel_line_40
  rw [lnS] at hE
  rw [R.s]
  refine q_eq (b := 0) (by (first | exact B31_s (by omega) (by omega) | exact B31_of _ | (constructor <;> omega))) (by (first | exact B31_s (by omega) (by omega) | exact B31_of _ | (constructor <;> omega))) (fun h0 => ?_) (fun h0 => ?_)
  · have hz := hrs.2.2.2.1.mp h0
    rw [if_pos hz.1, if_pos hz.2] at hE
    exact M_lnEnd (Q := fun nm' s' => Q (i' 19) i' j' h' nm' s') L.o M.h (fun nm2 => by rw [h19]; exact ok _ _ _ _ m S hE L (by omega) R.f (KQ_of KK))
  · have hE2 : r = rowS e p S (fun p' S' => if p + 2 ≤ p' then lnS e g' p' (m + 1) S' else flt 9 9) := by
      by_cases hz : oK e p = 0
      · rw [if_pos hz, if_neg (fun h => h0 (hrs.2.2.2.1.mpr ⟨hz, h⟩))] at hE
        rw [hE, rowS_e (by omega)]
      · rw [if_neg hz] at hE; exact hE
    refine M_row X ht hrv R L M hE2 (fun i2 j2 p2 S2 h2 nm2 hE3 L2 R2 M2 K2 => ?_) (fun i2 j2 h2 nm2 F K2 => ?_)
    · (first | refine z1T ?_ | refine z1N ?_)
      refine M_sign X ht R2 hE3 (fun i3 j3 hE4 o3 R3 K3 => ?_) (fun i3 j3 F K3 => ?_)
      · (first | refine z1T ?_ | refine z1N ?_)
        have hle := oX_le (e := e) (p := p2) (by omega)
        by_cases hp2 : p + 2 ≤ oX e p2
        · rw [if_pos hp2] at hE4
          refine hst g' _ _ _ _ (by omega) ⟨oX e p2, m + 1, S2, by omega, hle, by omega, hE4, L2, R3.u (by omega) (by omega) (by omega) (by omega) (by omega) (by omega) (by omega), ?_, ?_, ((KK.tr K2.k1).tr K3.k1).u (by omega) (by omega) (by omega) (by omega)⟩
          · have M3 := M2.k K3
            exact ⟨M3.h, by rw [upd_n (by omega)]; exact M3.sl, by rw [upd_n (j := 21) (by omega)]; exact M3.on, M3.n1, M3.n2⟩
          · rw [upd_s, K3.at_ (by omega), K2.2.1, h19]
            (try simp only [eI_lit, eI_neg, eI_add, eI_sub, eI_mul, eF_ap, upd_eF]); congr 1
        · rw [if_neg hp2] at hE4
          exact (hP.n hE4).elim
      · (first | refine z0T ?_ | refine z0N ?_)
        exact bad _ _ _ _ F (KQ_of ((KK.tr K2.k1).tr K3.k1))
    · (first | refine z0T ?_ | refine z0N ?_)
      exact bad _ _ _ _ F (KQ_of (KK.tr K2.k1))
