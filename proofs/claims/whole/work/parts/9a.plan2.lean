/-! plan: all rows -/
noncomputable def plS (e : TXX) : Nat → Nat → Nat → (Nat → Int) → RS
  | 0, _, m, f => (0, m, f)
  | g + 1, p, m, f => if oK e p = 0 then (if e.2.1 ≤ e.2.2 then (0, m, f) else flt 1 (oP e p)) else prS e p m f (fun p' f' => plS e g p' (m + 1) f')
theorem prS_0 {e : TXX} {p m : Nat} {f : Nat → Int} {k : Nat → (Nat → Int) → RS} (h : oK e p ≠ 1) : prS e p m f k = flt 1 (oP e p) := by
  unfold prS
  have e1 : kwd e p = -1 := kwd_n.mpr (fun h1 => h h1.1)
  rw [e1, if_pos (by omega)]
def z0f : Nat → Int := fun _ => 0
def KQ (i i' : F32) : Prop := i' 2 = 0 ∧ i' 33 = i 33 ∧ i' 38 = i 38 ∧ i' 44 = i 44
def KN1 (i i' : F32) : Prop := i' 2 = i 2 ∧ i' 33 = i 33 ∧ i' 38 = i 38 ∧ i' 44 = i 44
theorem KN.k1 {i i' : F32} (h : KN i i') : KN1 i i' := ⟨h 2 (by omega) (by omega) (by omega) (by omega) (by omega) (by omega) (by omega) (by omega), h 33 (by omega) (by omega) (by omega) (by omega) (by omega) (by omega) (by omega) (by omega), h 38 (by omega) (by omega) (by omega) (by omega) (by omega) (by omega) (by omega) (by omega), h 44 (by omega) (by omega) (by omega) (by omega) (by omega) (by omega) (by omega) (by omega)⟩
theorem KN1.tr {i i' i'' : F32} (h : KN1 i i') (h' : KN1 i' i'') : KN1 i i'' := ⟨h'.1.trans h.1, h'.2.1.trans h.2.1, h'.2.2.1.trans h.2.2.1, h'.2.2.2.trans h.2.2.2⟩
theorem KN1.u {i i' : F32} {q : Nat} {x : Int32} (h : KN1 i i') (h2 : q ≠ 2) (h3 : q ≠ 33) (h4 : q ≠ 38) (h5 : q ≠ 44) : KN1 i (upd i' q x) := ⟨by rw [upd_n (by omega)]; exact h.1, by rw [upd_n (by omega)]; exact h.2.1, by rw [upd_n (by omega)]; exact h.2.2.1, by rw [upd_n (by omega)]; exact h.2.2.2⟩
theorem KN.q41 {i i' : F32} (h : KN i i') : i' 41 = i 41 := h 41 (by omega) (by omega) (by omega) (by omega) (by omega) (by omega) (by omega) (by omega)
theorem POk_0 {f : Nat → Int} : POk (fP 0 f) := ⟨Nat.zero_le _, fun i hi => absurd hi (Nat.not_lt_zero _), fun i hi => absurd hi (Nat.not_lt_zero _), fun i hi => absurd hi (Nat.not_lt_zero _), fun i hi => absurd hi (Nat.not_lt_zero _)⟩
def pz (σ : Nat → Int) (m : Nat) (f : Nat → Int) (k : Nat) : Nat → Int := fun q => if q < 977 then σ q else if q - 977 < k then (if q = 977 then (m : Int) else f (q - 978)) else σ q
theorem pz_n {σ : Nat → Int} {m : Nat} {f : Nat → Int} {k q : Nat} (h : q < 977) : pz σ m f k q = σ q := by unfold pz; rw [if_pos h]
theorem pz_up {σ : Nat → Int} {m : Nat} {f : Nat → Int} {k : Nat} {x : Int} (h : x = if k = 0 then (m : Int) else f (k - 1)) : updI (pz σ m f k) (977 + k) x = pz σ m f (k + 1) := by
  funext q
  unfold updI pz
  by_cases e1 : q = 977 + k
  · subst e1
    rw [if_pos rfl, if_neg (by omega), if_pos (by omega), h]
    by_cases e2 : k = 0
    · subst e2; rfl
    · have ee : 977 + k - 978 = k - 1 := by omega
      rw [if_neg e2, if_neg (by omega), ee]
  · rw [if_neg e1]
    by_cases e3 : q < 977
    · rw [if_pos e3, if_pos e3]
    · rw [if_neg e3, if_neg e3]
      by_cases e4 : q - 977 < k
      · rw [if_pos e4, if_pos (show q - 977 < k + 1 by omega)]
      · rw [if_neg e4, if_neg (show ¬ q - 977 < k + 1 by omega)]
theorem pz_RP {σ : Nat → Int} {m : Nat} {f : Nat → Int} : RP (pz σ m f (3 * m + 1)) (fP m f) := by
  refine ⟨?_, fun i hi => ?_, fun i hi => ?_, fun i hi => ?_⟩
  · show pz σ m f (3 * m + 1) 977 = (m : Int)
    unfold pz; rw [if_neg (by omega), if_pos (by omega), if_pos rfl]
  · have hi' : i < m := hi
    have ee : 978 + 3 * i - 978 = 3 * i := by omega
    show pz σ m f (3 * m + 1) (978 + 3 * i) = f (3 * i)
    unfold pz; rw [if_neg (by omega), if_pos (by omega), if_neg (by omega), ee]
  · have hi' : i < m := hi
    have ee : 978 + 3 * i + 1 - 978 = 3 * i + 1 := by omega
    show pz σ m f (3 * m + 1) (978 + 3 * i + 1) = f (3 * i + 1)
    unfold pz; rw [if_neg (by omega), if_pos (by omega), if_neg (by omega), ee]
  · have hi' : i < m := hi
    have ee : 978 + 3 * i + 2 - 978 = 3 * i + 2 := by omega
    show pz σ m f (3 * m + 1) (978 + 3 * i + 2) = f (3 * i + 2)
    unfold pz; rw [if_neg (by omega), if_pos (by omega), if_neg (by omega), ee]
theorem pz_0 {σ : Nat → Int} {m : Nat} {f : Nat → Int} : pz σ m f 0 = σ := by
  funext q
  unfold pz
  by_cases e3 : q < 977
  · rw [if_pos e3]
  · rw [if_neg e3, if_neg (by omega)]
abbrev QMp := Int32 → F32 → (Nat → Int64) → F32 → F32 → Prop
theorem M_plan {e : TXX} (X : TK e) (he : e.2.2 = 400) {i t rd : F32} {j : Nat → Int64} {σ : Nat → Int} (ht : ∀ q, q < e.2.1 → t q &&& 255 = eI (e.1 q)) (h2 : i 2 = eI e.2.1) {Q : QMp}
    (bad : ∀ i' j' rd', RFl (plS e 31 0 0 z0f) i' → KQ i i' → Q (-1 - i' 16) i' j' rd' (eF σ))
    (ok : ∀ i' j' rd' m f σ', plS e 31 0 0 z0f = (0, m, f) → i' 15 = 0 → KQ i i' → POk (fP m f) → RP σ' (fP m f) → (∀ q, q < 977 → σ' q = σ q) → Q (eI m) i' j' rd' (eF σ')) : w_LongTrainModel_plan i j t rd (eF σ) Q := by
  have hn := X.t.n
  unfold w_LongTrainModel_plan w_LongTrainModel_taken
  rw [upd_n (by omega), h2]
  show w_LongTrainModel_next (upd (upd (upd (upd (upd (upd (upd i 0 0) 3 (eI e.2.1)) 2 0) 4 0) 5 400) 15 0) 41 0) j t _
  generalize hi0 : upd (upd (upd (upd (upd (upd (upd i 0 0) 3 (eI e.2.1)) 2 0) 4 0) 5 400) 15 0) 41 0 = i0
  have k0 : i0 2 = 0 ∧ i0 33 = i 33 ∧ i0 38 = i 38 ∧ i0 44 = i 44 := by
    rw [← hi0]
    refine ⟨?_, ?_, ?_, ?_⟩
    · rw [upd_n (by omega), upd_n (by omega), upd_n (by omega), upd_n (by omega), upd_s]
    · rw [upd_n (by omega), upd_n (by omega), upd_n (by omega), upd_n (by omega), upd_n (by omega), upd_n (by omega), upd_n (by omega)]
    · rw [upd_n (by omega), upd_n (by omega), upd_n (by omega), upd_n (by omega), upd_n (by omega), upd_n (by omega), upd_n (by omega)]
    · rw [upd_n (by omega), upd_n (by omega), upd_n (by omega), upd_n (by omega), upd_n (by omega), upd_n (by omega), upd_n (by omega)]
  have KQ_of : ∀ {i' : F32}, KN1 i0 i' → KQ i i' := fun h => ⟨h.1.trans k0.1, h.2.1.trans k0.2.1, h.2.2.1.trans k0.2.2.1, h.2.2.2.trans k0.2.2.2⟩
  have r0 : RNx e 0 i0 := by
    rw [← hi0]
    refine ⟨?_, ?_, ?_, Nat.zero_le _, ?_⟩
    · rw [upd_n (by omega), upd_n (by omega), upd_n (by omega), upd_n (by omega), upd_n (by omega), upd_s]
    · rw [upd_n (by omega), upd_n (by omega), upd_s, he]; rfl
    · rw [upd_n (by omega), upd_n (by omega), upd_n (by omega), upd_s]; rfl
    · rw [upd_n (by omega), upd_s]
  have r41 : i0 41 = eI ((0 : Nat) : Int) := by rw [← hi0, upd_s]; rfl
  refine M_nxt X ht r0 (fun i1 j1 R1 K1 _ => ?_)
  refine lg_LongTrainModel_plan_26 (G := Nat) (fun g i' j' rd' => ∃ p m f, g + m = 31 ∧ 1 ≤ g ∧ plS e 31 0 0 z0f = plS e g p m f ∧ RLd e p i' j' ∧ i' 41 = eI ((m : Nat) : Int) ∧ RRD m f rd' ∧ POk (fP m f) ∧ KN1 i0 i') (fun g => g) ?_ 31 ⟨0, 0, z0f, rfl, by omega, rfl, R1, by rw [K1.q41, r41], fun q hq => absurd hq (Nat.not_lt_zero _), POk_0, K1.k1⟩
  rintro kr g i' j' rd' ⟨p, m, f, hgm, hg1, hE, R, h41, D, PK, KK⟩ hs
  generalize plS e 31 0 0 z0f = r at *
  obtain ⟨g', rfl⟩ : ∃ g', g = g' + 1 := ⟨g - 1, by omega⟩
  have hrs := rso_1 (e := e) (oK_le e p)
  unfold b_LongTrainModel_plan_26
  rw [plS] at hE
  rw [R.s]
  refine q_eq (b := 0) (by (first | exact B31_s (by omega) (by omega) | exact B31_of _ | (constructor <;> omega))) (by (first | exact B31_s (by omega) (by omega) | exact B31_of _ | (constructor <;> omega))) (fun h0 => ?_) (fun h0 => ?_)
  · have hz := hrs.2.2.2.1.mp h0
    rw [if_pos hz.1, if_pos hz.2] at hE
    show ∃ n, lp_LongTrainModel_plan_81 i' (upd rd' 0 (i' 41)) (fun s' => Q (i' 41) i' j' (upd rd' 0 (i' 41)) s') n 0 (eF σ)
    rw [h41]
    refine lg_LongTrainModel_plan_81 (G := Nat) (fun k x s' => k ≤ 3 * m + 1 ∧ x = eI ((k : Nat) : Int) ∧ s' = eF (pz σ m f k)) (fun k => 3 * m + 1 - k) ?_ 0 ⟨by omega, rfl, by rw [pz_0]⟩
    rintro kr2 k x s' ⟨hk, rfl, rfl⟩ hs2
    unfold b_LongTrainModel_plan_81
    rw [h41]
    have e3 : (3 : Int32) * eI (m : Int) = eI (3 * (m : Int)) := by (try simp only [eI_lit, eI_neg, eI_add, eI_sub, eI_mul, eF_ap, upd_eF])
    rw [e3]
    refine q_lt (by (first | exact B31_s (by omega) (by omega) | exact B31_of _ | (constructor <;> omega))) (by (first | exact B31_s (by omega) (by omega) | exact B31_of _ | (constructor <;> omega))) (fun hlt => ?_) (fun hge => ?_)
    · have ek : k = 3 * m + 1 := by omega
      subst ek
      exact ok _ _ _ m f _ hE R.f (KQ_of KK) PK pz_RP (fun q hq => pz_n hq)
    · refine And.intro (eI_in (by omega) (by omega) (by omega)) ?_
      have e4 : (977 : Int32) + eI (k : Int) = eI ((977 + k : Nat) : Int) := by (try simp only [eI_lit, eI_neg, eI_add, eI_sub, eI_mul, eF_ap, upd_eF]); congr 1
      rw [e4]
      refine And.intro (eI_in (by omega) (by omega) (by omega)) ?_; (try simp (disch := omega) only [eI_cl, Int.toNat_natCast])
      have hv : upd rd' 0 (eI ((m : Nat) : Int)) k = eI (if k = 0 then (m : Int) else f (k - 1)) := by
        by_cases hk0 : k = 0
        · subst hk0; rw [upd_s, if_pos rfl]
        · rw [upd_n (by omega), if_neg hk0]
          have := D (k - 1) (by omega)
          have e5 : k - 1 + 1 = k := by omega
          rw [e5] at this; exact this
      rw [hv, upd_eF, pz_up rfl]
      exact hs2 (k + 1) _ _ (by omega) ⟨by omega, by (try simp only [eI_lit, eI_neg, eI_add, eI_sub, eI_mul, eF_ap, upd_eF]); congr 1, rfl⟩
  · have hE2 : r = prS e p m f (fun p' f' => plS e g' p' (m + 1) f') := by
      by_cases hz : oK e p = 0
      · rw [if_pos hz, if_neg (fun h => h0 (hrs.2.2.2.1.mpr ⟨hz, h⟩))] at hE
        rw [hE, prS_0 (by omega)]
      · rw [if_neg hz] at hE; exact hE
    refine M_planRow X ht R (by omega) h41 D PK hE2 (fun i2 j2 rd2 p2 f2 hE3 hm R2 K2 D2 PK2 => ?_) (fun i2 j2 rd2 F K2 => ?_)
    · (first | refine z1T ?_ | refine z1N ?_)
      refine M_sign X ht R2 hE3 (fun i3 j3 hE4 _ R3 K3 => ?_) (fun i3 j3 F K3 => ?_)
      · (first | refine z1T ?_ | refine z1N ?_)
        refine hs g' _ _ _ (by omega) ⟨oX e p2, m + 1, f2, by omega, by omega, hE4, R3.u (by omega) (by omega) (by omega) (by omega) (by omega) (by omega) (by omega), ?_, D2, PK2, ((KK.tr K2.k1).tr K3.k1).u (by omega) (by omega) (by omega) (by omega)⟩
        rw [upd_s, K3.q41, K2.q41, h41]
        (try simp only [eI_lit, eI_neg, eI_add, eI_sub, eI_mul, eF_ap, upd_eF]); congr 1
      · (first | refine z0T ?_ | refine z0N ?_)
        exact bad _ _ _ F (KQ_of ((KK.tr K2.k1).tr K3.k1))
    · (first | refine z0T ?_ | refine z0N ?_)
      exact bad _ _ _ F (KQ_of (KK.tr K2.k1))
/-! the class -/
theorem C_open {e : TXX} (X : TK e) {i : F32} {L : Int32} (hL : L = eI e.2.2) {Q : F32 → Prop} (hq : ∀ i', CRd e 0 i' → Q i') : w_Reader_open i (eI e.2.1) L Q := by
  have hn := X.t.n
  unfold w_Reader_open
  have e1 : jmin (eI (e.2.1 : Int)) (940 : Int32) = eI (e.2.1 : Int) := by
    have : jmin (eI (e.2.1 : Int)) (eI 940) = eI (min (e.2.1 : Int) 940) := jmin_e (by (first | exact B31_s (by omega) (by omega) | exact B31_of _ | (constructor <;> omega))) (by (first | exact B31_s (by omega) (by omega) | exact B31_of _ | (constructor <;> omega)))
    have e2 : min (e.2.1 : Int) 940 = (e.2.1 : Int) := by omega
    rw [e2] at this; exact this
  rw [e1]
  refine hq _ ⟨?_, ?_, ?_, Nat.zero_le _, ?_⟩
  · rw [upd_n (by omega), upd_n (by omega), upd_n (by omega), upd_n (by omega), upd_s]
  · rw [upd_n (by omega), upd_n (by omega), upd_n (by omega), upd_s, hL]
  · rw [upd_n (by omega), upd_n (by omega), upd_s]; rfl
  · rw [upd_n (by omega), upd_s]
theorem CPr.cp {m : Nat} {f : Nat → Int} {ip pw pf pq : F32} (h : CPr m f pw pf pq) (hn : ip 3 = eI m) : CP (fP m f) ip pw pf pq :=
  ⟨hn, fun i hi => (h i hi).1, fun i hi hw => (h i hi).2.1 hw, fun i hi hw => (h i hi).2.2 hw⟩
abbrev QCp := Int32 → F32 → F32 → F32 → (Nat → Int64) → F32 → F32 → F32 → Prop
theorem C_plan {e : TXX} (X : TK e) (he : e.2.2 = 400) {i ip i1 t pw pf pq : F32} {j : Nat → Int64} (ht : ∀ q, q < e.2.1 → t q = eI (e.1 q)) (h1 : i 1 = eI e.2.1) {Q Q1 : QCp}
    (bad : ∀ k p i' ip' i1' j' pw' pf' pq', plS e 31 0 0 z0f = flt k p → 1 ≤ k → k ≤ 4 → p ≤ 940 → i' = upd (upd i 1 0) 2 (eI k) → Q (-1 - eI p) i' ip' i1' j' pw' pf' pq')
    (ok : ∀ m f i' ip' i1' j' pw' pf' pq', plS e 31 0 0 z0f = (0, m, f) → i' = upd (upd i 1 0) 2 0 → CP (fP m f) ip' pw' pf' pq' → Q1 (eI m) i' ip' i1' j' pw' pf' pq') : w_LongTrain_plan i ip i1 j t pw pf pq Q Q1 := by
  have hn := X.t.n
  unfold w_LongTrain_plan w_LongTrain_takeTape w_Plan_read
  rw [h1]
  refine C_open X (by rw [he]; rfl) (fun i2 R => ?_)
  unfold w_Plan_clear
  refine C_adv X ht R (fun i3 j3 R3 => ?_)
  have hend : ∀ {ip' i' : F32} {j' : Nat → Int64} {pw' pf' pq' : F32}, (CFl (plS e 31 0 0 z0f) i' ∨ ∃ m f, plS e 31 0 0 z0f = (0, m, f) ∧ m ≤ 30 ∧ i' 8 = 0 ∧ CP (fP m f) ip' pw' pf' pq') → w_Reader_answer i' (ip' 3) (fun z => (z < 0 → Q z (upd (upd i 1 0) 2 (i' 8)) ip' i' j' pw' pf' pq') ∧ (¬ z < 0 → Q1 z (upd (upd i 1 0) 2 (i' 8)) ip' i' j' pw' pf' pq')) := fun h => by
    unfold w_Reader_answer
    rcases h with ⟨k, p, hk1, hk4, hp, hE, h8, h9⟩ | ⟨m, f, hE, hm, h8, C⟩
    · rw [h8, h9]
      refine q_ne (b := 0) (by (first | exact B31_s (by omega) (by omega) | exact B31_of _ | (constructor <;> omega))) (by (first | exact B31_s (by omega) (by omega) | exact B31_of _ | (constructor <;> omega))) (fun _ => ?_) (fun h => by omega)
      have e1 : (-1 : Int32) - eI (p : Int) = eI (-1 - (p : Int)) := by (try simp only [eI_lit, eI_neg, eI_add, eI_sub, eI_mul, eF_ap, upd_eF])
      rw [e1]
      refine q_lt0 (by (first | exact B31_s (by omega) (by omega) | exact B31_of _ | (constructor <;> omega))) (fun _ => ?_) (fun h => by omega)
      rw [← e1]
      exact bad k p _ _ _ _ _ _ _ hE hk1 hk4 hp rfl
    · rw [h8, C.n]
      refine ⟨fun h => absurd rfl h, fun _ => ?_⟩
      show (eI (m : Int) < 0 → _) ∧ (¬ eI (m : Int) < 0 → _)
      refine q_lt0 (by (first | exact B31_s (by omega) (by omega) | exact B31_of _ | (constructor <;> omega))) (fun h => by omega) (fun _ => ?_)
      exact ok m f _ _ _ _ _ _ _ hE rfl C
  refine lg_Plan_read_20 (G := Nat) (fun g x ip' i' j' pw' pf' pq' => ∃ p m f, g + m = 31 ∧ 1 ≤ g ∧ x = eI ((m : Nat) : Int) ∧ plS e 31 0 0 z0f = plS e g p m f ∧ CLd e p i' j' ∧ ip' 3 = eI ((m : Nat) : Int) ∧ CPr m f pw' pf' pq') (fun g => g) ?_ 31 ⟨0, 0, z0f, rfl, by omega, rfl, rfl, R3, upd_s, fun q hq => absurd hq (Nat.not_lt_zero _)⟩
  rintro kr g x ip' i' j' pw' pf' pq' ⟨p, m, f, hgm, hg1, rfl, hE, C, h3, D⟩ hs
  generalize plS e 31 0 0 z0f = r at *
  obtain ⟨g', rfl⟩ : ∃ g', g = g' + 1 := ⟨g - 1, by omega⟩
  rw [plS] at hE
  unfold b_Plan_read_20
  refine q_lt (a := 30) (by (first | exact B31_s (by omega) (by omega) | exact B31_of _ | (constructor <;> omega))) (by (first | exact B31_s (by omega) (by omega) | exact B31_of _ | (constructor <;> omega))) (fun h => by omega) (fun _ => ?_)
  refine C_isAtEnd X C (fun hgo => ?_) (fun h0 hle => ?_) (fun i4 h0 hlt h8 h9 => ?_)
  · (first | refine z0T ?_ | refine z0N ?_)
    rw [if_neg hgo] at hE
    refine C_keyword X ht C ?_
    refine C_planRow X ht C (by omega) h3 D hE (fun ip4 i4 j4 pw4 pf4 pq4 p4 f4 hE4 hm R4 h34 D4 => ?_) (fun ip4 i4 j4 pw4 pf4 pq4 F => ?_)
    · (first | refine z1T ?_ | refine z1N ?_)
      refine C_adv X ht R4 (fun i5 j5 R5 => ?_)
      exact hs g' _ _ _ _ _ _ _ (by omega) ⟨p4, m + 1, f4, by omega, by omega, by (try simp only [eI_lit, eI_neg, eI_add, eI_sub, eI_mul, eF_ap, upd_eF]); congr 1, hE4, R5, h34, D4⟩
    · (first | refine z0T ?_ | refine z0N ?_)
      exact hend (Or.inl F)
  · (first | refine z1T ?_ | refine z1N ?_)
    rw [if_pos h0, if_pos hle] at hE
    exact hend (Or.inr ⟨m, f, hE, by omega, C.f, D.cp h3⟩)
  · (first | refine z1T ?_ | refine z1N ?_)
    rw [if_pos h0, if_neg (by omega)] at hE
    exact hend (Or.inl ⟨1, oP e p, by omega, by omega, oP_940 X p, hE, h8, h9⟩)
