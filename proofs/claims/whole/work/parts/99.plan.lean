/-! plan: a row -/
def wrc (k : Int) : Int := if k = 11 then 0 else if k = 7 then 1 else if k = 12 then 2 else if k = 13 then 3 else if k = 14 then 4 else 5
def up3 (f : Nat → Int) (m : Nat) (w a b : Int) : Nat → Int := fun q => if q = 3 * m then w else if q = 3 * m + 1 then a else if q = 3 * m + 2 then b else f q
theorem up3_0 {f : Nat → Int} {m : Nat} {w a b : Int} : up3 f m w a b (3 * m) = w := by simp [up3]
theorem up3_1 {f : Nat → Int} {m : Nat} {w a b : Int} : up3 f m w a b (3 * m + 1) = a := by simp [up3]
theorem up3_2 {f : Nat → Int} {m : Nat} {w a b : Int} : up3 f m w a b (3 * m + 2) = b := by simp [up3]
theorem up3_n {f : Nat → Int} {m q : Nat} {w a b : Int} (h : q < 3 * m) : up3 f m w a b q = f q := by unfold up3; rw [if_neg (by omega), if_neg (by omega), if_neg (by omega)]
def fP (m : Nat) (f : Nat → Int) : PS := (m, fun i => f (3 * i), fun i => f (3 * i + 1), fun i => f (3 * i + 2))
noncomputable def prS (e : TXX) (p m : Nat) (f : Nat → Int) (k : Nat → (Nat → Int) → RS) : RS :=
  if ¬ (kwd e p = 7 ∨ 11 ≤ kwd e p) then flt 1 (oP e p)
  else if m = 30 then flt 4 (oP e p)
  else if wrc (kwd e p) = 3 ∨ wrc (kwd e p) = 5 then semS e (oX e p) (k (oX e (oX e p)) (up3 f m (wrc (kwd e p)) 0 0))
  else if wrc (kwd e p) < 2 then numS e (oX e p) 1 400 (semS e (oX e (oX e p)) (k (oX e (oX e (oX e p))) (up3 f m (wrc (kwd e p)) (oV e (oX e p)) 0)))
  else numS e (oX e p) 0 19 (if wrc (kwd e p) = 2 then numS e (oX e (oX e p)) 1 999 (semS e (oX e (oX e (oX e p))) (k (oX e (oX e (oX e (oX e p)))) (up3 f m (wrc (kwd e p)) (oV e (oX e p)) (oV e (oX e (oX e p))))))
    else semS e (oX e (oX e p)) (k (oX e (oX e (oX e p))) (up3 f m (wrc (kwd e p)) (oV e (oX e p)) 0)))
theorem wrc_bd (k : Int) : 0 ≤ wrc k ∧ wrc k ≤ 5 := by
  unfold wrc
  split
  · omega
  split
  · omega
  split
  · omega
  split
  · omega
  split <;> omega
theorem POk_up {m : Nat} {f : Nat → Int} {w a b : Int} (K : POk (fP m f)) (hm : m < 30) (hw : 0 ≤ w ∧ w ≤ 5) (h1 : w < 2 → 1 ≤ a ∧ a ≤ 400) (h2 : w = 2 ∨ w = 4 → 0 ≤ a ∧ a ≤ 19) (h3 : w = 2 → 1 ≤ b ∧ b ≤ 999) : POk (fP (m + 1) (up3 f m w a b)) := by
  have key : ∀ i, i < m + 1 → (i = m ∧ up3 f m w a b (3 * i) = w ∧ up3 f m w a b (3 * i + 1) = a ∧ up3 f m w a b (3 * i + 2) = b) ∨ (i < m ∧ up3 f m w a b (3 * i) = f (3 * i) ∧ up3 f m w a b (3 * i + 1) = f (3 * i + 1) ∧ up3 f m w a b (3 * i + 2) = f (3 * i + 2)) := fun i hi => by
    by_cases h : i = m
    · subst h; exact Or.inl ⟨rfl, up3_0, up3_1, up3_2⟩
    · exact Or.inr ⟨by omega, up3_n (by omega), up3_n (by omega), up3_n (by omega)⟩
  refine ⟨by show m + 1 ≤ 30; omega, ?_, ?_, ?_, ?_⟩
  · intro i hi
    show 0 ≤ up3 f m w a b (3 * i) ∧ up3 f m w a b (3 * i) ≤ 5
    rcases key i hi with ⟨rfl, e0, e1, e2⟩ | ⟨hl, e0, e1, e2⟩
    · rw [e0]; exact hw
    · rw [e0]; exact K.w i hl
  · intro i hi
    show up3 f m w a b (3 * i) < 2 → 1 ≤ up3 f m w a b (3 * i + 1) ∧ up3 f m w a b (3 * i + 1) ≤ 400
    rcases key i hi with ⟨rfl, e0, e1, e2⟩ | ⟨hl, e0, e1, e2⟩
    · rw [e0, e1]; exact h1
    · rw [e0, e1]; exact K.g i hl
  · intro i hi
    show up3 f m w a b (3 * i) = 2 ∨ up3 f m w a b (3 * i) = 4 → 0 ≤ up3 f m w a b (3 * i + 1) ∧ up3 f m w a b (3 * i + 1) ≤ 19
    rcases key i hi with ⟨rfl, e0, e1, e2⟩ | ⟨hl, e0, e1, e2⟩
    · rw [e0, e1]; exact h2
    · rw [e0, e1]; exact K.h i hl
  · intro i hi
    show up3 f m w a b (3 * i) = 2 → 1 ≤ up3 f m w a b (3 * i + 2) ∧ up3 f m w a b (3 * i + 2) ≤ 999
    rcases key i hi with ⟨rfl, e0, e1, e2⟩ | ⟨hl, e0, e1, e2⟩
    · rw [e0, e2]; exact h3
    · rw [e0, e2]; exact K.b i hl
def RRD (m : Nat) (f : Nat → Int) (rd : F32) : Prop := ∀ q, q < 3 * m → rd (q + 1) = eI (f q)
theorem RRD_up {m : Nat} {f : Nat → Int} {w a b : Int} {rd rd' : F32} (R : RRD m f rd) (h0 : rd' (3 * m + 1) = eI w) (h1 : rd' (3 * m + 2) = eI a) (h2 : rd' (3 * m + 3) = eI b) (hk : ∀ q, q < 3 * m + 1 → rd' q = rd q) : RRD (m + 1) (up3 f m w a b) rd' := fun q hq => by
  by_cases e0 : q = 3 * m
  · subst e0; rw [up3_0]; exact h0
  by_cases e1 : q = 3 * m + 1
  · subst e1; rw [up3_1]; exact h1
  by_cases e2 : q = 3 * m + 2
  · subst e2; rw [up3_2]; exact h2
  rw [up3_n (by omega), hk (q + 1) (by omega)]; exact R q (by omega)
abbrev QMP := Int32 → F32 → (Nat → Int64) → F32 → Prop
theorem M_planRow85 {e : TXX} {p m : Nat} {f : Nat → Int} {r : RS} {k : Nat → (Nat → Int) → RS} (X : TK e) {i t rd : F32} {j : Nat → Int64} (ht : ∀ q, q < e.2.1 → t q &&& 255 = eI (e.1 q)) (R : RLd e p i j) (hm : m ≤ 30) (h41 : i 41 = eI m) (D : RRD m f rd) (PK : POk (fP m f)) {w : Int} (hwb : 0 ≤ w ∧ w ≤ 5) (ho : oK e p = 1) (hE : r = if m = 30 then flt 4 (oP e p)
  else if w = 3 ∨ w = 5 then semS e (oX e p) (k (oX e (oX e p)) (up3 f m w 0 0))
  else if w < 2 then numS e (oX e p) 1 400 (semS e (oX e (oX e p)) (k (oX e (oX e (oX e p))) (up3 f m w (oV e (oX e p)) 0)))
  else numS e (oX e p) 0 19 (if w = 2 then numS e (oX e (oX e p)) 1 999 (semS e (oX e (oX e (oX e p))) (k (oX e (oX e (oX e (oX e p)))) (up3 f m w (oV e (oX e p)) (oV e (oX e (oX e p))))))
    else semS e (oX e (oX e p)) (k (oX e (oX e (oX e p))) (up3 f m w (oV e (oX e p)) 0)))) {Q : QMP} (ok : ∀ i' j' rd' p' f', r = semS e p' (k (oX e p') f') → m < 30 → RLd e p' i' j' → KN i i' → RRD (m + 1) f' rd' → POk (fP (m + 1) f') → Q 1 i' j' rd') (bad : ∀ i' j' rd', RFl r i' → KN i i' → Q 0 i' j' rd') : j_LongTrainModel_planRow_85 i j t rd (eI w) Q := by
  have RB : ∀ {k : Nat} {Q : Int32 → F32 → Prop}, 1 ≤ k → k ≤ 4 → r = flt k (oP e p) → (∀ i', RFl r i' → KN i i' → Q 0 i') → w_LongTrainModel_bad i (eI k) Q := fun h1 h4 hE b => M_bad X R h1 h4 hE rfl b
  have R0 : RNx e (oX e p) i := R.r (by omega) (by omega)
  have TT := fun (p : Nat) (r k : RS) (lo hi : Int) (i : F32) (j : Nat → Int64) => @M_takes e p r k lo hi X i t j ht
  have TN := fun (p : Nat) (i : F32) (j : Nat → Int64) => @M_nxt e p X i t j ht
  clear ho
  generalize oP e p = pp at *
  generalize oX e = ox at *
  generalize oV e = ov at *
  generalize oK e = oo at *
  unfold j_LongTrainModel_planRow_85
  refine q_ge0 (by (first | exact B31_s (by omega) (by omega) | exact B31_of _ | (constructor <;> omega))) (fun _ => ?_) (fun h => by omega)
  rw [h41]
  refine q_ne (b := 30) (by (first | exact B31_s (by omega) (by omega) | exact B31_of _ | (constructor <;> omega))) (by (first | exact B31_s (by omega) (by omega) | exact B31_of _ | (constructor <;> omega))) (fun h30 => ?_) (fun h30 => ?_)
  · rw [if_neg (by omega)] at hE
    refine TN _ _ _ R0 (fun i1 j1 R1 K1 _ => ?_)
    have t0 : ∀ _ : Unit, ((1 : Int32) + 3 * eI m).toNatClampNeg = 3 * m + 1 := by
      intro _
      have e0 : (1 : Int32) + 3 * eI m = eI (1 + 3 * (m : Int)) := by (try simp only [eI_lit, eI_neg, eI_add, eI_sub, eI_mul, eF_ap, upd_eF])
      rw [e0, eI_cl (by omega) (by omega)]; omega
    have t1 : ∀ _ : Unit, ((1 : Int32) + 3 * eI m + 1).toNatClampNeg = 3 * m + 2 := by
      intro _
      have e0 : (1 : Int32) + 3 * eI m + 1 = eI (1 + 3 * (m : Int) + 1) := by (try simp only [eI_lit, eI_neg, eI_add, eI_sub, eI_mul, eF_ap, upd_eF])
      rw [e0, eI_cl (by omega) (by omega)]; omega
    have t2 : ∀ _ : Unit, ((1 : Int32) + 3 * eI m + 2).toNatClampNeg = 3 * m + 3 := by
      intro _
      have e0 : (1 : Int32) + 3 * eI m + 2 = eI (1 + 3 * (m : Int) + 2) := by (try simp only [eI_lit, eI_neg, eI_add, eI_sub, eI_mul, eF_ap, upd_eF])
      rw [e0, eI_cl (by omega) (by omega)]; omega
    have v0 : vp_in ((1 : Int32) + 3 * eI m) 91 := by
      have e0 : (1 : Int32) + 3 * eI m = eI (1 + 3 * (m : Int)) := by (try simp only [eI_lit, eI_neg, eI_add, eI_sub, eI_mul, eF_ap, upd_eF])
      rw [e0]; exact eI_in (by omega) (by omega) (by omega)
    have v1 : vp_in ((1 : Int32) + 3 * eI m + 1) 91 := by
      have e0 : (1 : Int32) + 3 * eI m + 1 = eI (1 + 3 * (m : Int) + 1) := by (try simp only [eI_lit, eI_neg, eI_add, eI_sub, eI_mul, eF_ap, upd_eF])
      rw [e0]; exact eI_in (by omega) (by omega) (by omega)
    have v2 : vp_in ((1 : Int32) + 3 * eI m + 2) 91 := by
      have e0 : (1 : Int32) + 3 * eI m + 2 = eI (1 + 3 * (m : Int) + 2) := by (try simp only [eI_lit, eI_neg, eI_add, eI_sub, eI_mul, eF_ap, upd_eF])
      rw [e0]; exact eI_in (by omega) (by omega) (by omega)
    refine ⟨v0, v1, v2, ?_⟩
    rw [t0 (), t1 (), t2 ()]
    generalize hrd : upd (upd (upd rd (3 * m + 1) (eI w)) (3 * m + 2) 0) (3 * m + 3) 0 = rd1
    have a0 : rd1 (3 * m + 1) = eI w := by rw [← hrd, upd_n (by omega), upd_n (by omega), upd_s]
    have a1 : rd1 (3 * m + 2) = eI 0 := by rw [← hrd, upd_n (by omega), upd_s]; rfl
    have a2 : rd1 (3 * m + 3) = eI 0 := by rw [← hrd, upd_s]; rfl
    have ak : ∀ q, q < 3 * m + 1 → rd1 q = rd q := fun q hq => by rw [← hrd, upd_n (by omega), upd_n (by omega), upd_n (by omega)]
    have triv : w = 3 ∨ w = 5 → Q 1 i1 j1 rd1 := fun h => by
      rw [if_pos h] at hE
      exact ok i1 j1 rd1 _ _ hE (by omega) R1 K1 (RRD_up D a0 a1 a2 ak) (POk_up PK (by omega) hwb (by omega) (by omega) (by omega))
    refine q_eq (b := 3) (by (first | exact B31_s (by omega) (by omega) | exact B31_of _ | (constructor <;> omega))) (by (first | exact B31_s (by omega) (by omega) | exact B31_of _ | (constructor <;> omega))) (fun h3 => triv (Or.inl h3)) (fun h3 => ?_)
    refine q_ne (b := 5) (by (first | exact B31_s (by omega) (by omega) | exact B31_of _ | (constructor <;> omega))) (by (first | exact B31_s (by omega) (by omega) | exact B31_of _ | (constructor <;> omega))) (fun h5 => ?_) (fun h5 => triv (Or.inr h5))
    rw [if_neg (by omega)] at hE
    refine q_le (a := 2) (by (first | exact B31_s (by omega) (by omega) | exact B31_of _ | (constructor <;> omega))) (by (first | exact B31_s (by omega) (by omega) | exact B31_of _ | (constructor <;> omega))) (fun h2 => ?_) (fun h2 => ?_)
    · rw [if_neg (by omega)] at hE
      refine TT _ _ _ 0 19 _ _ R1 (by (first | exact B31_s (by omega) (by omega) | exact B31_of _ | (constructor <;> omega))) (by (first | exact B31_s (by omega) (by omega) | exact B31_of _ | (constructor <;> omega))) hE (fun i2 j2 hE2 o2 l2 g2 h18 R2 K2 => ?_) (fun i2 j2 F K2 => by (first | refine z0T ?_ | refine z0N ?_); exact bad _ _ _ F (K1.tr K2))
      (first | refine z1T ?_ | refine z1N ?_)
      unfold j_LongTrainModel_planRow_192
      refine ⟨v1, ?_⟩
      rw [t1 (), h18]
      refine q_eq (b := 2) (by (first | exact B31_s (by omega) (by omega) | exact B31_of _ | (constructor <;> omega))) (by (first | exact B31_s (by omega) (by omega) | exact B31_of _ | (constructor <;> omega))) (fun e2 => ?_) (fun e2 => ?_)
      · rw [if_pos e2] at hE2
        refine TT _ _ _ 1 999 _ _ R2 (by (first | exact B31_s (by omega) (by omega) | exact B31_of _ | (constructor <;> omega))) (by (first | exact B31_s (by omega) (by omega) | exact B31_of _ | (constructor <;> omega))) hE2 (fun i3 j3 hE3 o3 l3 g3 h18' R3 K3 => ?_) (fun i3 j3 F K3 => by (first | refine z0T ?_ | refine z0N ?_); exact bad _ _ _ F ((K1.tr K2).tr K3))
        (first | refine z1T ?_ | refine z1N ?_)
        refine ⟨v2, ?_⟩
        rw [t2 (), h18']
        have D3 := RRD_up (m := m) (f := f) (w := w) (a := ov (ox p)) (b := ov (ox (ox p))) (rd := rd) (rd' := upd (upd rd1 (3 * m + 2) (eI (ov (ox p)))) (3 * m + 3) (eI (ov (ox (ox p))))) D (by rw [upd_n (by omega), upd_n (by omega)]; exact a0) (by rw [upd_n (by omega), upd_s]) upd_s (fun q hq => by rw [upd_n (by omega), upd_n (by omega)]; exact ak q hq)
        have P3 := POk_up (w := w) (a := ov (ox p)) (b := ov (ox (ox p))) PK (by omega) hwb (by omega) (by omega) (by omega)
        exact ok _ _ _ _ _ hE3 (by omega) R3 ((K1.tr K2).tr K3) D3 P3
      · rw [if_neg e2] at hE2
        refine ok _ _ _ _ _ hE2 (by omega) R2 (K1.tr K2) (RRD_up D ?_ ?_ ?_ ?_) (POk_up PK (by omega) hwb (by omega) (by omega) (by omega))
        · rw [upd_n (by omega)]; exact a0
        · rw [upd_s]
        · rw [upd_n (by omega)]; exact a2
        · intro q hq; rw [upd_n (by omega)]; exact ak q hq
    · rw [if_pos (by omega)] at hE
      refine TT _ _ _ 1 400 _ _ R1 (by (first | exact B31_s (by omega) (by omega) | exact B31_of _ | (constructor <;> omega))) (by (first | exact B31_s (by omega) (by omega) | exact B31_of _ | (constructor <;> omega))) hE (fun i2 j2 hE2 o2 l2 g2 h18 R2 K2 => ?_) (fun i2 j2 F K2 => by (first | refine z0T ?_ | refine z0N ?_); exact bad _ _ _ F (K1.tr K2))
      (first | refine z1T ?_ | refine z1N ?_)
      unfold j_LongTrainModel_planRow_192
      refine ⟨v1, ?_⟩
      rw [t1 (), h18]
      refine q_eq (b := 2) (by (first | exact B31_s (by omega) (by omega) | exact B31_of _ | (constructor <;> omega))) (by (first | exact B31_s (by omega) (by omega) | exact B31_of _ | (constructor <;> omega))) (fun e2 => by omega) (fun e2 => ?_)
      refine ok _ _ _ _ _ hE2 (by omega) R2 (K1.tr K2) (RRD_up D ?_ ?_ ?_ ?_) (POk_up PK (by omega) hwb (by omega) (by omega) (by omega))
      · rw [upd_n (by omega)]; exact a0
      · rw [upd_s]
      · rw [upd_n (by omega)]; exact a2
      · intro q hq; rw [upd_n (by omega)]; exact ak q hq
  · rw [if_pos (by omega)] at hE
    exact RB (k := 4) (by omega) (by omega) hE (fun i' F K => bad i' j rd F K)
theorem M_planRow {e : TXX} {p m : Nat} {f : Nat → Int} {r : RS} {k : Nat → (Nat → Int) → RS} (X : TK e) {i t rd : F32} {j : Nat → Int64} (ht : ∀ q, q < e.2.1 → t q &&& 255 = eI (e.1 q)) (R : RLd e p i j) (hm : m ≤ 30) (h41 : i 41 = eI m) (D : RRD m f rd) (PK : POk (fP m f)) (hE : r = prS e p m f k) {Q : QMP} (ok : ∀ i' j' rd' p' f', r = semS e p' (k (oX e p') f') → m < 30 → RLd e p' i' j' → KN i i' → RRD (m + 1) f' rd' → POk (fP (m + 1) f') → Q 1 i' j' rd') (bad : ∀ i' j' rd', RFl r i' → KN i i' → Q 0 i' j' rd') : w_LongTrainModel_planRow i j t rd Q := by
  unfold prS at hE
  have main : ∀ w : Int, w = wrc (kwd e p) → (kwd e p = 7 ∨ 11 ≤ kwd e p) → j_LongTrainModel_planRow_85 i j t rd (eI w) Q := fun w hw hkw => by
    have hwb := wrc_bd (kwd e p)
    rw [← hw] at hwb hE
    rw [if_neg (fun h => h hkw)] at hE
    have ho : oK e p = 1 := by
      have hb := kwd_bd e p
      have := (kwd_k (e := e) (p := p) (k := (kwd e p).toNat) (by omega)).mp (by omega)
      exact this.1
    exact M_planRow85 X ht R hm h41 D PK hwb ho hE ok bad
  unfold w_LongTrainModel_planRow
  refine M_isWord (k := 11) R (by omega) (by decide) (fun h => by (first | refine z1T ?_ | refine z1N ?_); exact main 0 (by rw [h]; rfl) (by omega)) (fun h11 => ?_)
  (first | refine z0T ?_ | refine z0N ?_)
  refine M_isWord (k := 7) R (by omega) (by decide) (fun h => by (first | refine z1T ?_ | refine z1N ?_); exact main 1 (by rw [h]; rfl) (by omega)) (fun h7 => ?_)
  (first | refine z0T ?_ | refine z0N ?_)
  refine M_isWord (k := 12) R (by omega) (by decide) (fun h => by (first | refine z1T ?_ | refine z1N ?_); exact main 2 (by rw [h]; rfl) (by omega)) (fun h12 => ?_)
  (first | refine z0T ?_ | refine z0N ?_)
  refine M_isWord (k := 13) R (by omega) (by decide) (fun h => by (first | refine z1T ?_ | refine z1N ?_); exact main 3 (by rw [h]; rfl) (by omega)) (fun h13 => ?_)
  (first | refine z0T ?_ | refine z0N ?_)
  refine M_isWord (k := 14) R (by omega) (by decide) (fun h => by (first | refine z1T ?_ | refine z1N ?_); exact main 4 (by rw [h]; rfl) (by omega)) (fun h14 => ?_)
  (first | refine z0T ?_ | refine z0N ?_)
  refine M_isWord (k := 15) R (by omega) (by decide) (fun h => by (first | refine z1T ?_ | refine z1N ?_); exact main 5 (by rw [h]; rfl) (by omega)) (fun h15 => ?_)
  (first | refine z0T ?_ | refine z0N ?_)
  have hb := kwd_bd e p
  rw [if_pos (by omega)] at hE
  unfold j_LongTrainModel_planRow_85
  refine ⟨fun h => absurd h (by decide), fun _ => ?_⟩
  exact M_bad X R (by omega) (by omega) hE rfl (fun i' F K => bad i' j rd F K)
/-! the class -/
def CPr (m : Nat) (f : Nat → Int) (pw pf pq : F32) : Prop := ∀ i, i < m → pw i = eI (wcd (f (3 * i))) ∧ (f (3 * i) < 2 ∨ f (3 * i) = 2 ∨ f (3 * i) = 4 → pf i = eI (f (3 * i + 1))) ∧ (f (3 * i) = 2 → pq i = eI (f (3 * i + 2)))
theorem CPr_up {m : Nat} {f : Nat → Int} {w a b : Int} {pw pf pq pw' pf' pq' : F32} (C : CPr m f pw pf pq) (h0 : pw' m = eI (wcd w)) (h1 : w < 2 ∨ w = 2 ∨ w = 4 → pf' m = eI a) (h2 : w = 2 → pq' m = eI b) (k0 : ∀ q, q < m → pw' q = pw q) (k1 : ∀ q, q < m → pf' q = pf q) (k2 : ∀ q, q < m → pq' q = pq q) : CPr (m + 1) (up3 f m w a b) pw' pf' pq' := fun i hi => by
  by_cases h : i = m
  · subst h; rw [up3_0, up3_1, up3_2]; exact ⟨h0, h1, h2⟩
  · rw [up3_n (by omega), up3_n (by omega), up3_n (by omega), k0 i (by omega), k1 i (by omega), k2 i (by omega)]; exact C i (by omega)
theorem wcd_wrc {k : Int} (h : k = 7 ∨ 11 ≤ k) (h2 : k ≤ 15) : wcd (wrc k) = k := by
  have hc : k = 7 ∨ k = 11 ∨ k = 12 ∨ k = 13 ∨ k = 14 ∨ k = 15 := by omega
  rcases hc with rfl | rfl | rfl | rfl | rfl | rfl <;> rfl
abbrev QCP := Int32 → F32 → F32 → (Nat → Int64) → F32 → F32 → F32 → Prop
theorem C_planRow {e : TXX} {p m : Nat} {f : Nat → Int} {r : RS} {k : Nat → (Nat → Int) → RS} (X : TK e) {ip i t pw pf pq : F32} {j : Nat → Int64} (ht : ∀ q, q < e.2.1 → t q = eI (e.1 q)) (R : CLd e p i j) (hm : m ≤ 30) (h3 : ip 3 = eI m) (D : CPr m f pw pf pq) (hE : r = prS e p m f k) {Q : QCP} (ok : ∀ ip' i' j' pw' pf' pq' p' f', r = k p' f' → m < 30 → CRd e p' i' → ip' 3 = eI ((m + 1 : Nat) : Int) → CPr (m + 1) f' pw' pf' pq' → Q 1 ip' i' j' pw' pf' pq') (bad : ∀ ip' i' j' pw' pf' pq', CFl r i' → Q 0 ip' i' j' pw' pf' pq') : w_Plan_readRow ip i j pw t pf pq (eI (kwd e p)) Q := by
  have hb := kwd_bd e p
  unfold prS at hE
  have yes : (kwd e p = 7 ∨ 11 ≤ kwd e p) → j_Plan_readRow_18 ip i j pw t pf pq (eI (kwd e p)) Q := fun hkw => by
    have hw2 := wcd_wrc hkw hb.2
    have hwb := wrc_bd (kwd e p)
    have hdet : (wrc (kwd e p) = 0 ↔ kwd e p = 11) ∧ (wrc (kwd e p) = 1 ↔ kwd e p = 7) ∧ (wrc (kwd e p) = 2 ↔ kwd e p = 12) ∧ (wrc (kwd e p) = 4 ↔ kwd e p = 14) := by
      generalize kwd e p = κ at hkw hb
      have hc : κ = 7 ∨ κ = 11 ∨ κ = 12 ∨ κ = 13 ∨ κ = 14 ∨ κ = 15 := by omega
      rcases hc with rfl | rfl | rfl | rfl | rfl | rfl <;> decide
    rw [if_neg (fun h => h hkw)] at hE
    have ho : oK e p = 1 := by
      have := (kwd_k (e := e) (p := p) (k := (kwd e p).toNat) (by omega)).mp (by omega)
      exact this.1
    have R0 : CRd e (oX e p) i := R.r (by omega) (by omega)
    generalize wrc (kwd e p) = w at *
    generalize hκ : kwd e p = κ at *
    unfold j_Plan_readRow_18 j_Plan_readRow_23
    (first | refine z1T ?_ | refine z1N ?_)
    rw [h3]
    refine q_lt (b := 30) (by (first | exact B31_s (by omega) (by omega) | exact B31_of _ | (constructor <;> omega))) (by (first | exact B31_s (by omega) (by omega) | exact B31_of _ | (constructor <;> omega))) (fun h30 => ?_) (fun h30 => ?_)
    · rw [if_neg (by omega)] at hE
      have vm : vp_in (eI (m : Int)) 30 := eI_in (by omega) (by omega) (by omega)
      have tm : ∀ _ : Unit, (eI (m : Int)).toNatClampNeg = m := fun _ => by rw [eI_cl (by omega) (by omega)]; omega
      have i3' : upd ip 3 (ip 3 + 1) 3 = eI ((m + 1 : Nat) : Int) := by rw [upd_s, h3]; (try simp only [eI_lit, eI_neg, eI_add, eI_sub, eI_mul, eF_ap, upd_eF]); congr 1
      refine ⟨vm, ?_⟩
      rw [tm ()]
      generalize hpw : upd pw m (eI κ) = pw1
      have w0 : pw1 m = eI (wcd w) := by rw [← hpw, upd_s, hw2]
      have wk : ∀ q, q < m → pw1 q = pw q := fun q hq => by rw [← hpw, upd_n (by omega)]
      -- the last part: the row closes
      have last : ∀ {i1 : F32} {j1 : Nat → Int64} {pf1 pq1 : F32} {p1 : Nat} {a b : Int}, CRd e p1 i1 → r = semS e p1 (k (oX e p1) (up3 f m w a b)) → (w < 2 ∨ w = 2 ∨ w = 4 → pf1 m = eI a) → (w = 2 → pq1 m = eI b) → (∀ q, q < m → pf1 q = pf q) → (∀ q, q < m → pq1 q = pq q) → w_Reader_nextCloses i1 j1 t (fun z i' j' => Q z (upd ip 3 (ip 3 + 1)) i' j' pw1 pf1 pq1) := fun R1 hE1 g1 g2 k1 k2 => by
        refine C_nextCloses X ht R1 hE1 (fun i2 j2 hr _ R2 => ?_) (fun i2 j2 F => bad _ _ _ _ _ _ F)
        exact ok _ _ _ _ _ _ _ _ hr (by omega) R2 i3' (CPr_up D w0 g1 g2 wk k1 k2)
      have go : κ = 11 ∨ κ = 7 → j_Plan_readRow_71 ip i j pw1 t pf pq (eI κ) Q := fun hk1 => by
        have hw : w < 2 := by omega
        rw [if_neg (by omega), if_pos hw] at hE
        unfold j_Plan_readRow_71
        refine C_nextNumber (lo := 1) (hi := 400) X ht R0 (by (first | exact B31_s (by omega) (by omega) | exact B31_of _ | (constructor <;> omega))) (by (first | exact B31_s (by omega) (by omega) | exact B31_of _ | (constructor <;> omega))) hE (fun i2 j2 hE2 o2 l2 g2 h6 R2 => ?_) (fun i2 j2 F => by (first | refine z0T ?_ | refine z0N ?_); exact bad _ _ _ _ _ _ F)
        (first | refine z1T ?_ | refine z1N ?_)
        rw [h3]
        refine ⟨vm, ?_⟩
        rw [tm (), h6]
        unfold j_Plan_readRow_97
        refine q_eq (b := 12) (by (first | exact B31_s (by omega) (by omega) | exact B31_of _ | (constructor <;> omega))) (by (first | exact B31_s (by omega) (by omega) | exact B31_of _ | (constructor <;> omega))) (fun h => by omega) (fun _ => ?_)
        refine q_ne (b := 14) (by (first | exact B31_s (by omega) (by omega) | exact B31_of _ | (constructor <;> omega))) (by (first | exact B31_s (by omega) (by omega) | exact B31_of _ | (constructor <;> omega))) (fun _ => ?_) (fun h => by omega)
        unfold j_Plan_readRow_134
        refine q_ne (b := 12) (by (first | exact B31_s (by omega) (by omega) | exact B31_of _ | (constructor <;> omega))) (by (first | exact B31_s (by omega) (by omega) | exact B31_of _ | (constructor <;> omega))) (fun _ => ?_) (fun h => by omega)
        exact last R2 hE2 (fun _ => upd_s) (fun h => by omega) (fun q hq => upd_n (by omega)) (fun q hq => rfl)
      refine q_eq (b := 11) (by (first | exact B31_s (by omega) (by omega) | exact B31_of _ | (constructor <;> omega))) (by (first | exact B31_s (by omega) (by omega) | exact B31_of _ | (constructor <;> omega))) (fun h => go (Or.inl h)) (fun h11 => ?_)
      refine q_ne (b := 7) (by (first | exact B31_s (by omega) (by omega) | exact B31_of _ | (constructor <;> omega))) (by (first | exact B31_s (by omega) (by omega) | exact B31_of _ | (constructor <;> omega))) (fun h7 => ?_) (fun h => go (Or.inr h))
      have two : κ = 12 ∨ κ = 14 → j_Plan_readRow_109 ip i j pw1 t pf pq (eI κ) Q := fun hk1 => by
        rw [if_neg (by omega), if_neg (by omega)] at hE
        unfold j_Plan_readRow_109
        refine C_nextNumber (lo := 0) (hi := 19) X ht R0 (by (first | exact B31_s (by omega) (by omega) | exact B31_of _ | (constructor <;> omega))) (by (first | exact B31_s (by omega) (by omega) | exact B31_of _ | (constructor <;> omega))) hE (fun i2 j2 hE2 o2 l2 g2 h6 R2 => ?_) (fun i2 j2 F => by (first | refine z0T ?_ | refine z0N ?_); exact bad _ _ _ _ _ _ F)
        (first | refine z1T ?_ | refine z1N ?_)
        rw [h3]
        refine ⟨vm, ?_⟩
        rw [tm (), h6]
        unfold j_Plan_readRow_134
        refine q_ne (b := 12) (by (first | exact B31_s (by omega) (by omega) | exact B31_of _ | (constructor <;> omega))) (by (first | exact B31_s (by omega) (by omega) | exact B31_of _ | (constructor <;> omega))) (fun h12 => ?_) (fun h12 => ?_)
        · rw [if_neg (by omega)] at hE2
          exact last R2 hE2 (fun _ => upd_s) (fun h => by omega) (fun q hq => upd_n (by omega)) (fun q hq => rfl)
        · rw [if_pos (by omega)] at hE2
          refine C_nextNumber (lo := 1) (hi := 999) X ht R2 (by (first | exact B31_s (by omega) (by omega) | exact B31_of _ | (constructor <;> omega))) (by (first | exact B31_s (by omega) (by omega) | exact B31_of _ | (constructor <;> omega))) hE2 (fun i3 j3 hE3 o3 l3 g3 h6' R3 => ?_) (fun i2 j2 F => by (first | refine z0T ?_ | refine z0N ?_); exact bad _ _ _ _ _ _ F)
          (first | refine z1T ?_ | refine z1N ?_)
          rw [h3]
          refine ⟨vm, ?_⟩
          rw [tm (), h6', ← h3]
          exact last R3 hE3 (fun _ => upd_s) (fun _ => upd_s) (fun q hq => upd_n (by omega)) (fun q hq => upd_n (by omega))
      unfold j_Plan_readRow_97
      refine q_eq (b := 12) (by (first | exact B31_s (by omega) (by omega) | exact B31_of _ | (constructor <;> omega))) (by (first | exact B31_s (by omega) (by omega) | exact B31_of _ | (constructor <;> omega))) (fun h => two (Or.inl h)) (fun h12 => ?_)
      refine q_ne (b := 14) (by (first | exact B31_s (by omega) (by omega) | exact B31_of _ | (constructor <;> omega))) (by (first | exact B31_s (by omega) (by omega) | exact B31_of _ | (constructor <;> omega))) (fun h14 => ?_) (fun h => two (Or.inr h))
      rw [if_pos (by omega)] at hE
      unfold j_Plan_readRow_134
      refine q_ne (b := 12) (by (first | exact B31_s (by omega) (by omega) | exact B31_of _ | (constructor <;> omega))) (by (first | exact B31_s (by omega) (by omega) | exact B31_of _ | (constructor <;> omega))) (fun _ => ?_) (fun h => by omega)
      exact last R0 hE (fun h => by omega) (fun h => by omega) (fun q hq => rfl) (fun q hq => rfl)
    · rw [if_pos (by omega)] at hE
      exact C_failHere X R (by omega) (by omega) hE rfl (fun i' F => bad _ _ _ _ _ _ F)
  have no : ¬ (kwd e p = 7 ∨ 11 ≤ kwd e p) → j_Plan_readRow_22 ip i j pw t pf pq (eI (kwd e p)) Q := fun hkw => by
    rw [if_pos hkw] at hE
    unfold j_Plan_readRow_22 j_Plan_readRow_23
    (first | refine z0T ?_ | refine z0N ?_)
    exact C_failHere X R (by omega) (by omega) hE rfl (fun i' F => bad _ _ _ _ _ _ F)
  unfold w_Plan_readRow
  refine q_eq (b := 7) (by (first | exact B31_s (by omega) (by omega) | exact B31_of _ | (constructor <;> omega))) (by (first | exact B31_s (by omega) (by omega) | exact B31_of _ | (constructor <;> omega))) (fun h => yes (Or.inl h)) (fun h7 => ?_)
  refine q_lt (b := 11) (by (first | exact B31_s (by omega) (by omega) | exact B31_of _ | (constructor <;> omega))) (by (first | exact B31_s (by omega) (by omega) | exact B31_of _ | (constructor <;> omega))) (fun h => no (by omega)) (fun h11 => ?_)
  exact q_lt (a := 15) (by (first | exact B31_s (by omega) (by omega) | exact B31_of _ | (constructor <;> omega))) (by (first | exact B31_s (by omega) (by omega) | exact B31_of _ | (constructor <;> omega))) (fun h => by omega) (fun h => yes (Or.inr h11))
