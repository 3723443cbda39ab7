/-! line of the class -/
def T0 (h : Nat → Int) : TS := (0, (h 10).toNat, fun i => h (475 + i), fun _ => 0, 0, [], 0, fun _ => 0, fun _ => 0, fun _ _ => 0)
theorem T0_ok {h : Nat → Int} (O : LOk h) : TOk h (T0 h) := by
  have hfc := O.fc
  refine ⟨Int.le_refl _, Or.inr rfl, fun j hj => ?_, ?_, fun j hj => absurd hj (Nat.not_lt_zero _), fun j hj => absurd hj (Nat.not_lt_zero _), fun j hj => absurd hj (Nat.not_lt_zero _), Nat.zero_le _, fun p hp => by cases hp⟩
  · have hj' : j < (h 10).toNat := hj
    exact O.tr j (by omega)
  · show (h 10).toNat + 0 ≤ 8 + hb h 0
    omega
theorem T0_RT {h σ : Nat → Int} (O : LOk h) : RT (lnF h σ) (T0 h) := by
  have hfc := O.fc
  unfold lnF
  refine ⟨lnG_z (by omega) (by omega) (by omega) (by omega), ?_, lnG_z (by omega) (by omega) (by omega) (by omega), lnG_z (by omega) (by omega) (by omega) (by omega), fun q p hp => ?_, fun i hi => ?_, fun i hi => ?_, lnG_z (by omega) (by omega) (by omega) (by omega), fun j hj => absurd hj (Nat.not_lt_zero _), fun j hj => absurd hj (Nat.not_lt_zero _), fun j hj => absurd hj (Nat.not_lt_zero _), fun k hk _ => ?_⟩
  · rw [lnG_m]; show h 10 = (((h 10).toNat : Nat) : Int); omega
  · have hp' : ([] : List (Int × Int))[q]? = some p := hp
    simp at hp'
  · have hi' : i < (h 10).toNat := hi
    exact lnG_w hi'
  · have hi' : i < (h 10).toNat := hi
    exact lnG_z (by omega) (by omega) (by omega) (by omega)
  · rw [lnG_z (by omega) (by omega) (by omega) (by omega)]
    show (eI 0).toBitVec.getLsbD k = false
    have e1 : (eI 0).toBitVec = 0#32 := by decide
    rw [e1]; simp
theorem lnF_e {h σ : Nat → Int} : Eqv h (lnF h σ) := fun j hj => lnG_l hj
theorem P0_RP {h σ : Nat → Int} (O : LOk h) : RP (lnF h σ) (fP 0 z0f) := by
  have hfc := O.fc
  refine ⟨?_, fun i hi => absurd hi (Nat.not_lt_zero _), fun i hi => absurd hi (Nat.not_lt_zero _), fun i hi => absurd hi (Nat.not_lt_zero _)⟩
  exact lnG_z (by omega) (by omega) (by omega) (by omega)
theorem P0_CP {ip pw pf pq : F32} (h : ip 3 = 0) : CP (fP 0 z0f) ip pw pf pq :=
  ⟨h, fun i hi => absurd hi (Nat.not_lt_zero _), fun i hi => absurd hi (Nat.not_lt_zero _), fun i hi => absurd hi (Nat.not_lt_zero _)⟩
/-- all that stands behind a line that was read -/
theorem St0 {h σ : Nat → Int} (O : LOk h) {il gl hl ol d fl it i kk L W S E Pu H ih hst hsz hun hk ip pw pf pq : F32} (I : LnI h il) (G : LnG h gl) (HH : LnH h hl) (OO : LnO h ol) (D : LnK h d) (FF : LnF h fl) (C : CT h (T0 h) it i kk L W S E Pu H ih hst hsz hun hk) (hp : ip 3 = 0) : Stt (lnF h σ) (T0 h) (fP 0 z0f) il gl hl ol d fl it i kk L W S E Pu H ih hst hsz hun hk ip pw pf pq :=
  ⟨O.c lnF_e, (T0_ok O).e O lnF_e, T0_RT O, POk_0, P0_RP O, I.e lnF_e, G.e O lnF_e, HH.e O lnF_e, OO.e O lnF_e, D.e O lnF_e, FF.e O lnF_e, C.e O lnF_e (T0_ok O), P0_CP hp⟩
abbrev QTb := F32 → F32 → F32 → F32 → F32 → F32 → F32 → F32 → F32 → F32 → Prop
theorem C_begin {h : Nat → Int} (O : LOk h) {il hl fl d : F32} (I : LnI h il) (HH : LnH h hl) (FF : LnF h fl) (D : LnK h d) {it i K L W S E P H ih : F32} {Q : QTb} (hq : ∀ it' i' K' L' W' S' E' P' H' ih', (∀ hst hsz hun hk, CT h (T0 h) it' i' K' L' W' S' E' P' H' ih' hst hsz hun hk) → Q it' i' K' L' W' S' E' P' H' ih') : w_Train_begin it il i hl fl K L W S E P H d ih Q := by
  unfold w_Train_begin w_Halves_clear
  refine R_begin0 O I HH FF D (fun i' K' L' W' S' E' P' H' r => ?_)
  refine hq _ _ _ _ _ _ _ _ _ _ (fun hst hsz hun hk => ⟨r.congr ⟨rfl, fun j hj => ⟨rfl, rfl, rfl, rfl, rfl⟩⟩, upd_s, upd_s, ?_, fun j hj => absurd hj (Nat.not_lt_zero _), fun j hj => absurd hj (Nat.not_lt_zero _), fun j hj => absurd hj (Nat.not_lt_zero _), fun j hj => absurd hj (Nat.not_lt_zero _)⟩)
  rw [upd_n (by omega), upd_s]; rfl
theorem S0_C {z : Nat → Int} {it il gl hl ol d fl : F32} {hN kN : Nat → Int64} : CR (S0 z) (upd (upd it 4 0) 5 0) (upd (upd (upd (upd (upd (upd (upd (upd (upd (upd (upd il 1 0) 3 0) 5 0) 7 0) 9 0) 10 100) 11 10) 12 1) 13 10) 14 10) 15 2) gl hl ol d fl hN kN := by
  have zz0 : plH z 0 = 0 := plH_0 (by omega) (by omega)
  have zz1 : plH z 1 = 0 := plH_0 (by omega) (by omega)
  have zz2 : plH z 2 = 0 := plH_0 (by omega) (by omega)
  have zz3 : plH z 3 = 0 := plH_0 (by omega) (by omega)
  have zt : plH z 10 = 0 := plH_0 (by omega) (by omega)
  refine ⟨by rw [upd_n (by omega), upd_s]; rfl, fun k hk => ?_, fun k hk => ?_, fun k hk => ?_, ⟨?_, ?_, ?_, ?_, ?_, ?_, ?_, ?_, ?_, ?_, ?_⟩, fun k hk => ?_, fun k hk => ?_, fun k hk => ?_, fun k hk => ?_, fun k hk => ?_⟩
  · rw [upd_s]
    show (0 : Int32).toBitVec.getLsbD (k + 5) = false
    simp
  · have hk' : (k : Int) < plH z 1 := hk
    omega
  · have hk' : (k : Int) < plH z 3 := hk
    omega
  · show _ = eI (plH z 0); rw [zz0]; simp [upd]; rfl
  · show _ = eI (plH z 1); rw [zz1]; simp [upd]; rfl
  · show _ = eI (plH z 2); rw [zz2]; simp [upd]; rfl
  · show _ = eI (plH z 3); rw [zz3]; simp [upd]; rfl
  · show _ = eI (plH z 10); rw [zt]; simp [upd]; rfl
  · show _ = eI (plH z 4); rw [plH_4]; simp [upd]; rfl
  · show _ = eI (plH z 5); rw [plH_5]; simp [upd]; rfl
  · show _ = eI (plH z 6); rw [plH_6]; simp [upd]; rfl
  · show _ = eI (plH z 7); rw [plH_7]; simp [upd]; rfl
  · show _ = eI (plH z 8); rw [plH_8]; simp [upd]; rfl
  · show _ = eI (plH z 9); rw [plH_9]; simp [upd]; rfl
  · have hk' : (k : Int) < plH z 0 := hk
    omega
  · have hk' : (k : Int) < plH z 1 := hk
    omega
  · have hk' : (k : Int) < 2 * plH z 2 := hk
    omega
  · have hk' : (k : Int) < 3 * plH z 3 := hk
    omega
  · have hk' : (k : Int) < plH z 10 := hk
    omega
abbrev QCL := Int32 → F32 → F32 → F32 → F32 → (Nat → Int64) → F32 → (Nat → Int64) → (Nat → Int64) → F32 → F32 → F32 → F32 → F32 → F32 → F32 → F32 → F32 → F32 → F32 → F32 → F32 → F32 → F32 → Prop
theorem C_line {e : TXX} (X : TK e) (he : e.2.2 = 900) {z : Nat → Int} {i it t il ir gl hl ol d fl jt jr K L W S E P H ih ip : F32} {jj hN kN : Nat → Int64} (ht : ∀ q, q < e.2.1 → t q = eI (e.1 q)) (h1 : i 1 = eI e.2.1) {Q Q1 : QCL}
    (bad : ∀ k p i' it' il' ir' jj' gl' hN' kN' hl' ol' d' fl', lnS e 941 0 0 (S0 z) = flt k p → 1 ≤ k → k ≤ 4 → p ≤ 940 → i' = upd (upd i 1 0) 2 (eI k) → Q (-1 - eI p) i' it' il' ir' jj' gl' hN' kN' hl' ol' d' fl' jt jr K L W S E P H ih ip)
    (ok : ∀ m V i' it' il' ir' jj' gl' hN' kN' hl' ol' d' fl' jt' jr' K' L' W' S' E' P' H' ih' ip', lnS e 941 0 0 (S0 z) = (0, m, V) → LOk V → m ≤ 470 → i' = upd (upd i 1 0) 2 0 → LnI V il' → LnG V gl' → LnH V hl' → LnO V ol' → LnK V d' → LnF V fl' → (∀ hst hsz hun hk, CT V (T0 V) jt' jr' K' L' W' S' E' P' H' ih' hst hsz hun hk) → ip' 3 = 0 → Q1 (eI m) i' it' il' ir' jj' gl' hN' kN' hl' ol' d' fl' jt' jr' K' L' W' S' E' P' H' ih' ip') : w_LongTrain_line i it t il ir jj gl hN kN hl ol d fl jt jr K L W S E P H ih ip Q Q1 := by
  have hn := X.t.n
  unfold w_LongTrain_line w_LongTrain_takeTape w_LineReader_read
  rw [h1]
  refine C_open X (by rw [he]; rfl) (fun i2 R => ?_)
  unfold w_Line_clear
  refine C_adv X ht R (fun i3 j3 R3 => ?_)
  have hP := lnS_P (e := e) 941 0 0 (S0 z)
  have hend : ∀ {x : Int32} {it' il' i' : F32} {j' : Nat → Int64} {gl' : F32} {hN' kN' : Nat → Int64} {hl' ol' d' fl' : F32}, (CFl (lnS e 941 0 0 (S0 z)) i' ∨ ∃ m V, lnS e 941 0 0 (S0 z) = (0, m, V.h) ∧ m ≤ 470 ∧ x = eI ((m : Nat) : Int) ∧ i' 8 = 0 ∧ LSk V ∧ CR V it' il' gl' hl' ol' d' fl' hN' kN') → w_Reader_answer i' x (fun z_14 => (((z_14 < 0) → (Q z_14 (upd (upd i 1 0) 2 (i' 8)) it' il' i' j' gl' hN' kN' hl' ol' d' fl' jt jr K L W S E P H ih ip)) ∧ ((¬ (z_14 < 0)) → (w_Train_begin jt il' jr hl' fl' K L W S E P H d' ih (fun jt' jr' K' L' W' S' E' P' H' ih' => (w_Plan_clear ip (fun ip' => (Q1 z_14 (upd (upd i 1 0) 2 (i' 8)) it' il' i' j' gl' hN' kN' hl' ol' d' fl' jt' jr' K' L' W' S' E' P' H' ih' ip')))))))) := fun h => by
    unfold w_Reader_answer
    rcases h with ⟨k, p, hk1, hk4, hp, hE, h8, h9⟩ | ⟨m, V, hE, hm, rfl, h8, LV, CV⟩
    · rw [h8, h9]
      refine q_ne (b := 0) (by (first | exact B31_s (by omega) (by omega) | exact B31_of _ | (constructor <;> omega))) (by (first | exact B31_s (by omega) (by omega) | exact B31_of _ | (constructor <;> omega))) (fun _ => ?_) (fun h => by omega)
      have e1 : (-1 : Int32) - eI (p : Int) = eI (-1 - (p : Int)) := by (try simp only [eI_lit, eI_neg, eI_add, eI_sub, eI_mul, eF_ap, upd_eF])
      rw [e1]
      refine q_lt0 (by (first | exact B31_s (by omega) (by omega) | exact B31_of _ | (constructor <;> omega))) (fun _ => ?_) (fun h => by omega)
      rw [← e1]
      exact bad k p _ _ _ _ _ _ _ _ _ _ _ _ hE hk1 hk4 hp rfl
    · rw [h8]
      refine ⟨fun h => absurd rfl h, fun _ => ?_⟩
      refine q_lt0 (by (first | exact B31_s (by omega) (by omega) | exact B31_of _ | (constructor <;> omega))) (fun h => by omega) (fun _ => ?_)
      refine C_begin LV.o CV.I CV.H CV.F CV.D (fun jt' jr' K' L' W' S' E' P' H' ih' CC => ?_)
      unfold w_Plan_clear
      exact ok m V.h _ _ _ _ _ _ _ _ _ _ _ _ _ _ _ _ _ _ _ _ _ _ _ hE LV.o hm rfl CV.I CV.G CV.H CV.O CV.D CV.F CC upd_s
  refine lg_LineReader_read_44 (G := Nat) (fun g x it' il' i' j' gl' hN' kN' hl' ol' d' fl' => ∃ p m V, 941 ≤ g + p ∧ p ≤ e.2.1 ∧ 2 * m ≤ p ∧ x = eI ((m : Nat) : Int) ∧ lnS e 941 0 0 (S0 z) = lnS e g p m V ∧ LSk V ∧ CLd e p i' j' ∧ CR V it' il' gl' hl' ol' d' fl' hN' kN') (fun g => g) ?_ 941 ⟨0, 0, S0 z, by omega, by omega, by omega, rfl, rfl, S0_k, R3, S0_C⟩
  rintro kr g x it' il' i' j' gl' hN' kN' hl' ol' d' fl' ⟨p, m, V, hgp, hpn, hmp, rfl, hE, LV, C, M⟩ hst
  generalize lnS e 941 0 0 (S0 z) = r at *
  obtain ⟨g', rfl⟩ : ∃ g', g = g' + 1 := ⟨g - 1, by omega⟩
  rw [lnS] at hE
  unfold b_LineReader_read_44
  refine q_le (a := 900) (by (first | exact B31_s (by omega) (by omega) | exact B31_of _ | (constructor <;> omega))) (by (first | exact B31_s (by omega) (by omega) | exact B31_of _ | (constructor <;> omega))) (fun h => by omega) (fun _ => ?_)
  refine C_isAtEnd X C (fun hgo => ?_) (fun h0 hle => ?_) (fun i4 h0 hlt h8 h9 => ?_)
  · (first | refine z0T ?_ | refine z0N ?_)
    rw [if_neg hgo] at hE
    refine C_keyword X ht C ?_
    refine C_row X ht C LV M hE (fun it4 i4 j4 il4 gl4 hN4 kN4 hl4 ol4 d4 fl4 p4 V4 hE4 L4 R4 M4 => ?_) (fun it4 i4 j4 il4 gl4 hN4 kN4 hl4 ol4 d4 fl4 F => ?_)
    · (first | refine z1T ?_ | refine z1N ?_)
      have hle := R4.le
      by_cases hp2 : p + 2 ≤ p4
      · rw [if_pos hp2] at hE4
        refine C_adv X ht R4 (fun i5 j5 R5 => ?_)
        exact hst g' _ _ _ _ _ _ _ _ _ _ _ _ (by omega) ⟨p4, m + 1, V4, by omega, hle, by omega, by (try simp only [eI_lit, eI_neg, eI_add, eI_sub, eI_mul, eF_ap, upd_eF]); congr 1, hE4, L4, R5, M4⟩
      · rw [if_neg hp2] at hE4
        exact (hP.n hE4).elim
    · (first | refine z0T ?_ | refine z0N ?_)
      exact hend (Or.inl F)
  · (first | refine z1T ?_ | refine z1N ?_)
    rw [if_pos h0, if_pos hle] at hE
    exact hend (Or.inr ⟨m, V, hE, by omega, rfl, C.f, LV, M⟩)
  · (first | refine z1T ?_ | refine z1N ?_)
    rw [if_pos h0, if_neg (by omega)] at hE
    exact hend (Or.inl ⟨1, oP e p, by omega, by omega, oP_940 X p, hE, h8, h9⟩)
