/-! span -/
def wS (σ : Nat → Int) (h : Int) : Int := sm (fun j => LG σ (wK σ h j)) (wN σ h)
def spC (σ : Nat → Int) (u v h : Int) : Prop := h - wS σ h ≤ min u v ∧ max u v ≤ h
def spN (σ : Nat → Int) (u v : Int) : Nat → Int
  | 0 => 0
  | m + 1 => if (m : Int) - wS σ m ≤ min u v ∧ max u v ≤ m then spN σ u v m + 1 else spN σ u v m
def spF (σ : Nat → Int) (u v : Int) : Nat → Int
  | 0 => -1
  | m + 1 => if (m : Int) - wS σ m ≤ min u v ∧ max u v ≤ m then (if spN σ u v m = 0 then (m : Int) else spF σ u v m) else spF σ u v m
theorem spN_bd (σ : Nat → Int) (u v : Int) : ∀ m : Nat, 0 ≤ spN σ u v m ∧ spN σ u v m ≤ m ∧ -1 ≤ spF σ u v m ∧ spF σ u v m < m ∧ (spN σ u v m = 0 ↔ spF σ u v m = -1) := by
  intro m
  induction m with
  | zero => simp [spN, spF]
  | succ m ih =>
    unfold spN spF
    split
    · split <;> omega
    · omega
theorem wS_bd {σ} (O : LOk σ) (h : Int) : 0 ≤ wS σ h ∧ wS σ h ≤ 162 := by
  have h1 := sm_lg O (wK_ok O h) (i := wN σ h) (Nat.le_refl _)
  have h2 := wN_18 O h
  unfold wS
  omega
def spanS (σ : Nat → Int) (u v w : Int) : Int := if (0 ≤ u ∧ u < σ 0) ∧ (0 ≤ v ∧ v < σ 0) ∧ 0 ≤ w ∧ w ≤ 1 then (if w = 0 then spN σ u v (σ 0).toNat else spF σ u v (σ 0).toNat) else -1
theorem M_span {σ} (O : LOk σ) {i w : F32} {u v c : Int} (hu' : B31 u) (hv' : B31 v) (hc : B31 c) {Q : Int32 → F32 → F32 → Prop} (hq : ∀ i' w', KP i i' → Q (eI (spanS σ u v c)) i' w') : w_LongTrainModel_span i (eF σ) w (eI u) (eI v) (eI c) Q := by
  have hu := O.u
  unfold w_LongTrainModel_span
  unfold spanS at hq
  (try simp only [eI_lit, eI_neg, eI_add, eI_sub, eI_mul, eF_ap, upd_eF])
  have no : ¬ ((0 ≤ u ∧ u < σ 0) ∧ (0 ≤ v ∧ v < σ 0) ∧ 0 ≤ c ∧ c ≤ 1) → Q (eI (-1)) (upd i 0 (eI 0)) w := fun hn => by
    rw [if_neg hn] at hq; exact hq _ _ KP.u0
  refine M_isUnit O hu' (fun a1 a2 => ?_) (fun a => by (first | refine z0T ?_ | refine z0N ?_); exact no (by omega))
  (first | refine z1T ?_ | refine z1N ?_)
  refine M_isUnit O hv' (fun b1 b2 => ?_) (fun a => by (first | refine z0T ?_ | refine z0N ?_); exact no (by omega))
  (first | refine z1T ?_ | refine z1N ?_)
  refine M_isIn hc (by (first | exact B31_s (by omega) (by omega) | exact B31_of _ | (constructor <;> omega))) (by (first | exact B31_s (by omega) (by omega) | exact B31_of _ | (constructor <;> omega))) (fun c1 c2 => ?_) (fun a => by (first | refine z0T ?_ | refine z0N ?_); exact no (by omega))
  (first | refine z1T ?_ | refine z1N ?_)
  rw [if_pos ⟨⟨a1, a2⟩, ⟨b1, b2⟩, c1, c2⟩] at hq
  refine lg_LongTrainModel_span_41 (G := Nat) (fun g x4 x5 x6 i' w' => (g : Int) ≤ σ 0 ∧ x4 = eI (spN σ u v g) ∧ x5 = eI (spF σ u v g) ∧ x6 = eI g ∧ Kp (upd i 0 (eI 0)) i') (fun g => (σ 0).toNat - g) ?_ 0 ⟨by omega, rfl, rfl, rfl, Kp.rf⟩
  rintro kr g x4 x5 x6 i' w' ⟨hg, rfl, rfl, rfl, hk⟩ hstep
  have hsp := spN_bd σ u v g
  unfold b_LongTrainModel_span_41
  (try simp only [eI_lit, eI_neg, eI_add, eI_sub, eI_mul, eF_ap, upd_eF])
  refine q_le (by (first | exact B31_s (by omega) (by omega) | exact B31_of _ | (constructor <;> omega))) (by (first | exact B31_s (by omega) (by omega) | exact B31_of _ | (constructor <;> omega))) (fun h => ?_) (fun h => ?_)
  · have e : (σ 0).toNat = g := by omega
    rw [e] at hq
    refine q_ne hc (by (first | exact B31_s (by omega) (by omega) | exact B31_of _ | (constructor <;> omega))) (fun h2 => ?_) (fun h2 => ?_)
    · rw [if_neg h2] at hq; exact hq _ _ hk.P
    · rw [if_pos h2] at hq; exact hq _ _ hk.P
  · refine M_free O (by omega) (by omega) (fun w2 hw => ?_)
    have h18 := wN_18 O g
    have hkk := wK_ok O g
    have hkc := O.kc
    refine lg_LongTrainModel_span_64 (G := Nat) (fun m x7 x8 => m ≤ wN σ g ∧ x7 = eI (1 + sm (fun j => LG σ (wK σ g j)) m) ∧ x8 = eI m) (fun m => wN σ g - m) ?_ 0 ⟨by omega, by simp [sm], rfl⟩
    rintro kr2 m x7 x8 ⟨hm, rfl, rfl⟩ hs2
    unfold b_LongTrainModel_span_64
    rw [upd_s]
    refine q_le (by show B31 ((wN σ g : Nat) : Int); (first | exact B31_s (by omega) (by omega) | exact B31_of _ | (constructor <;> omega))) (by (first | exact B31_s (by omega) (by omega) | exact B31_of _ | (constructor <;> omega))) (fun h => ?_) (fun h => ?_)
    · have h' : (wN σ g : Int) ≤ m := h
      have e : m = wN σ g := by omega
      subst e
      have hwb := wS_bd O g
      have e2 : sm (fun j => LG σ (wK σ g j)) (wN σ g) = wS σ g := rfl
      rw [e2]
      (try simp only [eI_lit, eI_neg, eI_add, eI_sub, eI_mul, eF_ap, upd_eF])
      have hk2 : Kp (upd i 0 (eI 0)) (upd i' 27 (eI (frn σ (hb σ g) : Nat))) := hk.u (by omega)
      have skip : ¬ ((g : Int) - wS σ g ≤ min u v ∧ max u v ≤ g) → kr (eI (spN σ u v g)) (eI (spF σ u v g)) (eI (g + 1)) (upd i' 27 (eI (frn σ (hb σ g) : Nat))) w2 := fun hn => by
        refine hstep (g + 1) _ _ _ _ _ (by omega) ⟨by omega, ?_, ?_, by congr 1, hk2⟩
        · rw [spN, if_neg hn]
        · rw [spF, if_neg hn]
      refine M_isIn hu' (by (first | exact B31_s (by omega) (by omega) | exact B31_of _ | (constructor <;> omega))) (by (first | exact B31_s (by omega) (by omega) | exact B31_of _ | (constructor <;> omega))) (fun d1 d2 => ?_) (fun d => by (first | refine z0T ?_ | refine z0N ?_); exact skip (by omega))
      (first | refine z1T ?_ | refine z1N ?_)
      refine M_isIn hv' (by (first | exact B31_s (by omega) (by omega) | exact B31_of _ | (constructor <;> omega))) (by (first | exact B31_s (by omega) (by omega) | exact B31_of _ | (constructor <;> omega))) (fun f1 f2 => ?_) (fun d => by (first | refine z0T ?_ | refine z0N ?_); exact skip (by omega))
      (first | refine z1T ?_ | refine z1N ?_)
      have hy : (g : Int) - wS σ g ≤ min u v ∧ max u v ≤ g := by omega
      refine q_ne (by (first | exact B31_s (by omega) (by omega) | exact B31_of _ | (constructor <;> omega))) (by (first | exact B31_s (by omega) (by omega) | exact B31_of _ | (constructor <;> omega))) (fun n0 => ?_) (fun n0 => ?_)
      · refine hstep (g + 1) _ _ _ _ _ (by omega) ⟨by omega, ?_, ?_, by congr 1, hk2⟩
        · rw [spN, if_pos hy]
        · rw [spF, if_pos hy, if_neg n0]
      · refine hstep (g + 1) _ _ _ _ _ (by omega) ⟨by omega, ?_, ?_, by congr 1, hk2⟩
        · rw [spN, if_pos hy]
        · rw [spF, if_pos hy, if_pos n0]
    · have h' : (m : Int) < wN σ g := h
      have hkm := hkk m (by omega)
      refine And.intro (eI_in (by omega) (by omega) (by omega)) ?_; (try simp (disch := omega) only [eI_cl, Int.toNat_natCast])
      have hw' : w2 m = eI (wK σ g m) := hw m (by show m < wN σ g; omega)
      rw [hw']
      refine M_longOf hkm.1 (by omega) ?_
      (try simp only [eI_lit, eI_neg, eI_add, eI_sub, eI_mul, eF_ap, upd_eF])
      refine hs2 (m + 1) _ _ (by omega) ⟨by omega, ?_, by congr 1⟩
      rw [sm]; congr 1; omega
theorem C_findSpan {σ} (O : LOk σ) {fi i K L W S E P H : F32} {il hl fl d : F32} (I : LnI σ il) (HH : LnH σ hl) (FF : LnF σ fl) (D : LnK σ d) {u v : Int} (hu0 : 0 ≤ u) (hu1 : u < σ 0) (hv0 : 0 ≤ v) (hv1 : v < σ 0) {Q : QR9} (hq : ∀ fi' i' K' L' W' S' E' P' H', fi' 9 = fi 9 → fi' 4 = eI (spN σ u v (σ 0).toNat) → fi' 2 = eI (spF σ u v (σ 0).toNat) → Q fi' i' K' L' W' S' E' P' H') : w_Free_findSpan fi il i hl fl K L W S E P H d (eI (min u v)) (eI (max u v)) Q := by
  have hu := O.u
  unfold w_Free_findSpan
  refine R_begin O I HH FF D (fun i' K' L' W' S' E' P' H' r => ?_)
  refine lg_Free_findSpan_21 (G := Nat) (fun g x4 fi' i' K' L' W' S' E' P' H' => (g : Int) ≤ σ 0 ∧ x4 = eI g ∧ fi' 9 = fi 9 ∧ fi' 4 = eI (spN σ u v g) ∧ fi' 2 = eI (spF σ u v g) ∧ ∃ q, RowR σ (FX σ (hz σ g)) q (hz σ g) i' K' L' W' S' E' P' H') (fun g => (σ 0).toNat - g) ?_ 0 ⟨by omega, rfl, by rw [upd_n (by omega), upd_n (by omega)], by rw [upd_n (by omega), upd_s]; rfl, by rw [upd_s]; rfl, 0, r⟩
  rintro kr g x4 fi' i' K' L' W' S' E' P' H' ⟨hg, rfl, h9, h4, h2, q, r⟩ hstep
  have hsp := spN_bd σ u v g
  unfold b_Free_findSpan_21
  rw [I.u]
  refine q_le (by (first | exact B31_s (by omega) (by omega) | exact B31_of _ | (constructor <;> omega))) (by (first | exact B31_s (by omega) (by omega) | exact B31_of _ | (constructor <;> omega))) (fun h => ?_) (fun h => ?_)
  · have e : (σ 0).toNat = g := by omega
    rw [e] at hq
    exact hq _ _ _ _ _ _ _ _ _ h9 h4 h2
  · refine R_takeF O (r.head (g : Int)) I HH D (by omega) (by omega) (fun i3 K3 L3 W3 S3 E3 P3 H3 r3 => ?_)
    have et : i3 9 = eI (wS σ g) := r3.tot
    have hb := wS_bd O g
    have r4 : RowR σ (FX σ (hz σ ((g + 1 : Nat) : Int))) g (hz σ ((g + 1 : Nat) : Int)) i3 K3 L3 W3 S3 E3 P3 H3 := by
      have e2 : ((g + 1 : Nat) : Int) = (g : Int) + 1 := by omega
      rw [e2, hz_next (by omega)]; exact r3
    rw [et, upd_n (by omega), h2, h4]
    (try simp only [eI_lit, eI_neg, eI_add, eI_sub, eI_mul, eF_ap, upd_eF])
    have skip : ¬ ((g : Int) - wS σ g ≤ min u v ∧ max u v ≤ g) → kr (eI (g + 1)) fi' i3 K3 L3 W3 S3 E3 P3 H3 := fun hn => by
      refine hstep (g + 1) _ _ _ _ _ _ _ _ _ _ (by omega) ⟨by omega, by congr 1, h9, ?_, ?_, _, r4⟩
      · rw [spN, if_neg hn]; exact h4
      · rw [spF, if_neg hn]; exact h2
    refine q_lt (by (first | exact B31_s (by omega) (by omega) | exact B31_of _ | (constructor <;> omega))) (by (first | exact B31_s (by omega) (by omega) | exact B31_of _ | (constructor <;> omega))) (fun h3 => skip (by omega)) (fun h3 => ?_)
    refine q_lt (by (first | exact B31_s (by omega) (by omega) | exact B31_of _ | (constructor <;> omega))) (by (first | exact B31_s (by omega) (by omega) | exact B31_of _ | (constructor <;> omega))) (fun h5 => skip (by omega)) (fun h5 => ?_)
    have hy : (g : Int) - wS σ g ≤ min u v ∧ max u v ≤ g := by omega
    refine q_ne (by (first | exact B31_s (by omega) (by omega) | exact B31_of _ | (constructor <;> omega))) (by (first | exact B31_s (by omega) (by omega) | exact B31_of _ | (constructor <;> omega))) (fun n0 => ?_) (fun n0 => ?_)
    · refine hstep (g + 1) _ _ _ _ _ _ _ _ _ _ (by omega) ⟨by omega, by congr 1, by rw [upd_n (by omega), upd_n (by omega)]; exact h9, ?_, ?_, _, r4⟩
      · rw [upd_n (by omega), upd_s, spN, if_pos hy]
      · rw [upd_s, spF, if_pos hy, if_neg (by omega)]
    · refine hstep (g + 1) _ _ _ _ _ _ _ _ _ _ (by omega) ⟨by omega, by congr 1, by rw [upd_n (by omega), upd_n (by omega)]; exact h9, ?_, ?_, _, r4⟩
      · rw [upd_n (by omega), upd_s, spN, if_pos hy]
      · rw [upd_s, spF, if_pos hy, if_pos (by omega)]
theorem C_span {σ} (O : LOk σ) {fi i K L W S E P H : F32} {il hl fl d : F32} (I : LnI σ il) (HH : LnH σ hl) (FF : LnF σ fl) (D : LnK σ d) {u v c : Int} (hu' : B31 u) (hv' : B31 v) (hc : B31 c) {Q : Int32 → QR9} (hq : ∀ fi' i' K' L' W' S' E' P' H', fi' 9 = fi 9 → Q (eI (spanS σ u v c)) fi' i' K' L' W' S' E' P' H') : w_LongTrain_span il fi i hl fl K L W S E P H d (eI u) (eI v) (eI c) Q := by
  unfold w_LongTrain_span
  unfold spanS at hq
  (try simp only [eI_lit, eI_neg, eI_add, eI_sub, eI_mul, eF_ap, upd_eF])
  have no : ¬ ((0 ≤ u ∧ u < σ 0) ∧ (0 ≤ v ∧ v < σ 0) ∧ 0 ≤ c ∧ c ≤ 1) → Q (eI (-1)) fi i K L W S E P H := fun hn => by
    rw [if_neg hn] at hq; exact hq _ _ _ _ _ _ _ _ _ rfl
  refine C_isUnit O I hu' (fun a1 a2 => ?_) (fun a => by (first | refine z0T ?_ | refine z0N ?_); exact no (by omega))
  (first | refine z1T ?_ | refine z1N ?_)
  refine C_isUnit O I hv' (fun b1 b2 => ?_) (fun a => by (first | refine z0T ?_ | refine z0N ?_); exact no (by omega))
  (first | refine z1T ?_ | refine z1N ?_)
  refine q_lt hc (by (first | exact B31_s (by omega) (by omega) | exact B31_of _ | (constructor <;> omega))) (fun h => no (by omega)) (fun c1 => ?_)
  refine q_le hc (by (first | exact B31_s (by omega) (by omega) | exact B31_of _ | (constructor <;> omega))) (fun c2 => ?_) (fun h => no (by omega))
  rw [if_pos ⟨⟨a1, a2⟩, ⟨b1, b2⟩, c1, c2⟩] at hq
  rw [jmin_e hu' hv', jmax_e hu' hv']
  refine C_findSpan O I HH FF D a1 a2 b1 b2 (fun fi' i' K' L' W' S' E' P' H' h9 h4 h2 => ?_)
  rw [h4, h2]
  refine q_ne hc (by (first | exact B31_s (by omega) (by omega) | exact B31_of _ | (constructor <;> omega))) (fun h2 => ?_) (fun h2 => ?_)
  · rw [if_neg h2] at hq; exact hq _ _ _ _ _ _ _ _ _ h9
  · rw [if_pos h2] at hq; exact hq _ _ _ _ _ _ _ _ _ h9
/-! room -/
def fS (σ : Nat → Int) (h : Int) (m : Nat) : Int := sm (fun j => LG σ (fK σ h j)) m
def roomS (σ : Nat → Int) (k : Int) : Int := if 0 ≤ k ∧ k < σ 1 then (if fN σ (AT σ k) = 0 then 0 else 1 + fS σ (AT σ k) (fN σ (AT σ k))) else -1
theorem at_k {σ} (O : LOk σ) {k : Int} (h0 : 0 ≤ k) (h1 : k < σ 1) : 0 ≤ AT σ k ∧ AT σ k < σ 0 := by
  have := O.at_ k.toNat (by omega)
  have e : ((k.toNat : Nat) : Int) = k := by omega
  rw [e] at this; exact this
theorem hl_k {σ} (O : LOk σ) {k : Int} (h0 : 0 ≤ k) (h1 : k < σ 1) : 1 ≤ HL σ k ∧ HL σ k ≤ 99 := by
  have := O.hl k.toNat (by omega)
  have e : ((k.toNat : Nat) : Int) = k := by omega
  rw [e] at this; exact this
theorem M_room {σ} (O : LOk σ) {i w f b : F32} {k : Int} (hk : B31 k) {Q : Int32 → F32 → F32 → F32 → F32 → Prop} (hq : ∀ i' w' f' b', KP i i' → Q (eI (roomS σ k)) i' w' f' b') : w_LongTrainModel_room i (eF σ) w f b (eI k) Q := by
  have hu := O.u
  have hc := O.hc
  have hkc := O.kc
  unfold w_LongTrainModel_room
  unfold roomS at hq
  (try simp only [eI_lit, eI_neg, eI_add, eI_sub, eI_mul, eF_ap, upd_eF])
  refine M_isHalt O hk (fun a1 a2 => ?_) (fun a => by (first | refine z0T ?_ | refine z0N ?_); rw [if_neg a] at hq; exact hq _ _ _ _ KP.u0)
  (first | refine z1T ?_ | refine z1N ?_)
  rw [if_pos ⟨a1, a2⟩] at hq
  have ha := at_k O a1 a2
  refine M_haltAt a1 (by omega) ?_
  refine M_freeAt O ha.1 (by omega) (fun i2 w2 f2 b2 k2 hn hl hw hf hb => ?_)
  have h18 := fN_18 O (AT σ k)
  have hkk := fK_ok O (AT σ k)
  rw [hn]
  (try simp only [eI_lit, eI_neg, eI_add, eI_sub, eI_mul, eF_ap, upd_eF])
  refine q_ne (by (first | exact B31_s (by omega) (by omega) | exact B31_of _ | (constructor <;> omega))) (by (first | exact B31_s (by omega) (by omega) | exact B31_of _ | (constructor <;> omega))) (fun n0 => ?_) (fun n0 => ?_)
  · rw [if_neg (by omega)] at hq
    refine M_haltAt a1 (by omega) ?_
    refine And.intro (eI_in (by omega) (by omega) (by omega)) ?_; refine And.intro (eI_in (by omega) (by omega) (by omega)) ?_; (try simp (disch := omega) only [eI_cl, Int.toNat_natCast])
    have e1 : ((fN σ (AT σ k) : Int) - 1).toNat = fN σ (AT σ k) - 1 := by omega
    have hk1 := hkk (fN σ (AT σ k) - 1) (by omega)
    rw [e1, hw _ (by omega), hf _ (by omega)]
    refine M_longOf hk1.1 (by omega) ?_
    (try simp only [eI_lit, eI_neg, eI_add, eI_sub, eI_mul, eF_ap, upd_eF])
    have e2 : AT σ k - fo σ (fK σ (AT σ k)) (AT σ k) (fN σ (AT σ k) - 1) + LG σ (fK σ (AT σ k) (fN σ (AT σ k) - 1)) = 1 + fS σ (AT σ k) (fN σ (AT σ k)) := by
      have e3 : fN σ (AT σ k) = (fN σ (AT σ k) - 1) + 1 := by omega
      unfold fS
      rw [e3, sm]
      have e4 : fN σ (AT σ k) - 1 + 1 - 1 = fN σ (AT σ k) - 1 := by omega
      rw [e4]
      unfold fo
      omega
    rw [e2]
    exact hq _ _ _ _ k2.P
  · rw [if_pos (by omega)] at hq
    exact hq _ _ _ _ k2.P
theorem C_room {σ} (O : LOk σ) {i K L W S E P H : F32} {il hl fl d : F32} (I : LnI σ il) (HH : LnH σ hl) (FF : LnF σ fl) (D : LnK σ d) {k : Int} (hk : B31 k) {Q : Int32 → QR} (hq : ∀ i' K' L' W' S' E' P' H', Q (eI (roomS σ k)) i' K' L' W' S' E' P' H') : w_LongTrain_room il i hl fl K L W S E P H d (eI k) Q := by
  have hu := O.u
  have hc := O.hc
  unfold w_LongTrain_room
  unfold roomS at hq
  refine C_isHalt O I hk (fun a1 a2 => ?_) (fun a => by (first | refine z0T ?_ | refine z0N ?_); rw [if_neg a] at hq; exact hq _ _ _ _ _ _ _ _)
  (first | refine z1T ?_ | refine z1N ?_)
  rw [if_pos ⟨a1, a2⟩] at hq
  have ha := at_k O a1 a2
  unfold w_Free_roomNeeded
  have ek : ((k.toNat : Nat) : Int) = k := by omega
  rw [← ek]
  refine L_haltAt HH (by omega) (by omega) ?_
  rw [ek]
  refine R_travel O I HH FF D ha.1 (by omega) (fun i' K' L' W' S' E' P' H' r => ?_)
  have e := fr_hz O ha.1
  have h18 := fN_18 O (AT σ k)
  have e8 : i' 8 = eI (fN σ (AT σ k)) := by rw [r.sz]; show eI (frn σ (hz σ (AT σ k)) : Nat) = _; rw [e.1]; rfl
  have e9 : i' 9 = eI (fS σ (AT σ k) (fN σ (AT σ k))) := by rw [r.tot]; show eI (sm (fun j => LG σ (frk σ (hz σ (AT σ k)) j)) (frn σ (hz σ (AT σ k)))) = _; rw [e.1, e.2]; rfl
  rw [e8, e9]
  (try simp only [eI_lit, eI_neg, eI_add, eI_sub, eI_mul, eF_ap, upd_eF])
  refine q_ne (by (first | exact B31_s (by omega) (by omega) | exact B31_of _ | (constructor <;> omega))) (by (first | exact B31_s (by omega) (by omega) | exact B31_of _ | (constructor <;> omega))) (fun n0 => ?_) (fun n0 => ?_)
  · rw [if_neg (by omega)] at hq; exact hq _ _ _ _ _ _ _ _
  · rw [if_pos (by omega)] at hq; exact hq _ _ _ _ _ _ _ _
/-! platform -/
noncomputable def plw (σ : Nat → Int) (k : Int) : Nat := lf (fun m => HL σ k < 1 + fS σ (AT σ k) (m + 1)) (fN σ (AT σ k))
def bt (c : Nat) : Int32 := ((1 : Int32) <<< (eI c &&& 31)) - 1
theorem bt_s : ∀ c : Fin 20, bt c ||| ((1 : Int32) <<< (eI c &&& 31)) = bt (c + 1 : Nat) := by decide
theorem bt_s' {c : Nat} (h : c < 20) : bt c ||| ((1 : Int32) <<< (eI c &&& 31)) = bt (c + 1) := bt_s ⟨c, h⟩
theorem fS_mono {σ} (O : LOk σ) {h : Int} {a b : Nat} (hab : a ≤ b) (hb : b ≤ fN σ h) : fS σ h a ≤ fS σ h b := by
  induction b with
  | zero => have : a = 0 := by omega
            subst this; exact Int.le_refl _
  | succ b ih =>
    by_cases e : a = b + 1
    · subst e; exact Int.le_refl _
    · have h1 := ih (by omega) (by omega)
      have h2 := fK_ok O h b (by omega)
      have h3 := O.kd _ h2.1 h2.2
      have h4 : fS σ h (b + 1) = fS σ h b + LG σ (fK σ h b) := rfl
      omega
theorem fS_bd {σ} (O : LOk σ) {h : Int} {a : Nat} (ha : a ≤ fN σ h) : 0 ≤ fS σ h a ∧ fS σ h a ≤ 162 := by
  have h1 := sm_lg O (fK_ok O h) (i := a) ha
  have h2 := fN_18 O h
  unfold fS
  omega
theorem M_platformOf {σ} (O : LOk σ) {i w f b : F32} {k : Int} (a1 : 0 ≤ k) (a2 : k < σ 1) {Q : Int32 → F32 → F32 → F32 → F32 → Prop} (hq : ∀ i' w' f' b', Kp i i' → Q (bt (plw σ k)) i' w' f' b') : w_LongTrainModel_platformOf i (eF σ) w f b (eI k) Q := by
  have hu := O.u
  have hc := O.hc
  have hkc := O.kc
  have ha := at_k O a1 a2
  have hh := hl_k O a1 a2
  unfold w_LongTrainModel_platformOf
  refine M_haltAt a1 (by omega) ?_
  refine M_freeAt O ha.1 (by omega) (fun i2 w2 f2 b2 k2 hn hl hw hf hb => ?_)
  have h18 := fN_18 O (AT σ k)
  have hkk := fK_ok O (AT σ k)
  obtain ⟨p1, p2, p3⟩ := lf_sp (fun m => HL σ k < 1 + fS σ (AT σ k) (m + 1)) (fN σ (AT σ k))
  refine lg_LongTrainModel_platformOf_13 (G := Nat) (fun m x2 x3 => m ≤ fN σ (AT σ k) ∧ x2 = bt (min m (plw σ k)) ∧ x3 = eI m) (fun m => fN σ (AT σ k) - m) ?_ 0 ⟨by omega, by rw [Nat.min_eq_left (Nat.zero_le _)]; rfl, rfl⟩
  rintro kr m x2 x3 ⟨hm, rfl, rfl⟩ hs
  unfold b_LongTrainModel_platformOf_13
  rw [hn]
  refine q_le (by (first | exact B31_s (by omega) (by omega) | exact B31_of _ | (constructor <;> omega))) (by (first | exact B31_s (by omega) (by omega) | exact B31_of _ | (constructor <;> omega))) (fun h => ?_) (fun h => ?_)
  · have e : min m (plw σ k) = plw σ k := by unfold plw; omega
    rw [e]
    exact hq _ _ _ _ k2
  · have hk1 := hkk m (by omega)
    refine And.intro (eI_in (by omega) (by omega) (by omega)) ?_; refine And.intro (eI_in (by omega) (by omega) (by omega)) ?_; (try simp (disch := omega) only [eI_cl, Int.toNat_natCast])
    rw [hw m (by omega), hf m (by omega)]
    refine M_longOf hk1.1 (by omega) ?_
    refine M_haltAt a1 (by omega) ?_
    (try simp only [eI_lit, eI_neg, eI_add, eI_sub, eI_mul, eF_ap, upd_eF])
    refine And.intro (eI_in (by omega) (by omega) (by omega)) ?_; (try simp (disch := omega) only [eI_cl, Int.toNat_natCast])
    have e1 : σ (411 + 3 * k + 1).toNat = HL σ k := rfl
    have e2 : fo σ (fK σ (AT σ k)) (AT σ k) m - LG σ (fK σ (AT σ k) m) + 1 = AT σ k - fS σ (AT σ k) (m + 1) := by
      unfold fo fS
      rw [sm]
      omega
    have hb2 := fS_bd O (h := AT σ k) (a := m + 1) (by omega)
    rw [e1, e2]
    refine q_le (by (first | exact B31_s (by omega) (by omega) | exact B31_of _ | (constructor <;> omega))) (by (first | exact B31_s (by omega) (by omega) | exact B31_of _ | (constructor <;> omega))) (fun h2 => ?_) (fun h2 => ?_)
    · refine hs (m + 1) _ _ (by omega) ⟨by omega, ?_, by congr 1⟩
      have : plw σ k ≤ m := by
        rcases Nat.lt_or_ge m (plw σ k) with hlt | hge
        · exact absurd (by omega) (p2 m hlt)
        · exact hge
      congr 1; omega
    · refine hs (m + 1) _ _ (by omega) ⟨by omega, ?_, by congr 1⟩
      have : m < plw σ k := by
        rcases Nat.lt_or_ge m (plw σ k) with hlt | hge
        · exact hlt
        · have h5 := p3 (Nat.lt_of_le_of_lt hge (by omega))
          have h6 := fS_mono O (h := AT σ k) (a := plw σ k + 1) (b := m + 1) (by omega) (by omega)
          have h7 : HL σ k < 1 + fS σ (AT σ k) (plw σ k + 1) := h5
          omega
      have e3 : min m (plw σ k) = m := by omega
      have e4 : min (m + 1) (plw σ k) = m + 1 := by omega
      rw [e3, e4]
      exact bt_s' (by omega)
theorem M_platform {σ} (O : LOk σ) {i w f b : F32} {k : Int} (hk : B31 k) {Q : Int32 → F32 → F32 → F32 → F32 → Prop} (h0 : ¬ (0 ≤ k ∧ k < σ 1) → ∀ i' w' f' b', KP i i' → Q (-1) i' w' f' b') (hq : 0 ≤ k ∧ k < σ 1 → ∀ i' w' f' b', KP i i' → Q (bt (plw σ k)) i' w' f' b') : w_LongTrainModel_platform i (eF σ) w f b (eI k) Q := by
  unfold w_LongTrainModel_platform
  refine M_isHalt O hk (fun a1 a2 => ?_) (fun a => by (first | refine z0T ?_ | refine z0N ?_); exact h0 a _ _ _ _ KP.u0)
  (first | refine z1T ?_ | refine z1N ?_)
  exact M_platformOf O a1 a2 (fun i' w' f' b' k => hq ⟨a1, a2⟩ _ _ _ _ k.P)
theorem plw_le {σ} (O : LOk σ) (k : Int) : plw σ k ≤ 18 := by
  have := (lf_sp (fun m => HL σ k < 1 + fS σ (AT σ k) (m + 1)) (fN σ (AT σ k))).1
  have := fN_18 O (AT σ k)
  unfold plw
  omega
theorem C_atPlatform {σ} (O : LOk σ) {i K L W S E P H : F32} {il hl fl d : F32} (I : LnI σ il) (HH : LnH σ hl) (FF : LnF σ fl) (D : LnK σ d) {k : Int} (a1 : 0 ≤ k) (a2 : k < σ 1) {Q : Int32 → QR} (hq : ∀ i' K' L' W' S' E' P' H', Q (eI (plw σ k)) i' K' L' W' S' E' P' H') : w_Free_wagonsAtPlatform il i hl fl K L W S E P H d (eI k) Q := by
  have hu := O.u
  have hc := O.hc
  have ha := at_k O a1 a2
  have hh := hl_k O a1 a2
  have ek : ((k.toNat : Nat) : Int) = k := by omega
  unfold w_Free_wagonsAtPlatform
  rw [← ek]
  refine L_haltAt HH (by omega) (by omega) ?_
  rw [ek]
  refine R_travel O I HH FF D ha.1 (by omega) (fun i' K' L' W' S' E' P' H' r => ?_)
  have e := fr_hz O ha.1
  have h18 := fN_18 O (AT σ k)
  have e8 : i' 8 = eI (fN σ (AT σ k)) := by rw [r.sz]; show eI (frn σ (hz σ (AT σ k)) : Nat) = _; rw [e.1]; rfl
  have eL : ∀ j, j < fN σ (AT σ k) → L' j = eI (LG σ (fK σ (AT σ k) j)) := fun j hj => by
    have := r.l j (by show j < frn σ (hz σ (AT σ k)); rw [e.1]; exact hj)
    rw [this]
    show eI (LG σ (frk σ (hz σ (AT σ k)) j)) = _
    rw [e.2]; rfl
  refine lg_Free_wagonsAtPlatform_18 (G := Nat) (fun m x3 x4 => m ≤ fN σ (AT σ k) ∧ x3 = eI (1 + fS σ (AT σ k) m) ∧ x4 = eI m ∧ ∀ j, j < m → ¬ HL σ k < 1 + fS σ (AT σ k) (j + 1)) (fun m => fN σ (AT σ k) - m) ?_ 0 ⟨by omega, by simp [fS, sm]; rfl, rfl, fun j hj => absurd hj (Nat.not_lt_zero _)⟩
  rintro kr m x3 x4 ⟨hm, rfl, rfl, hnb⟩ hs
  unfold b_Free_wagonsAtPlatform_18
  rw [e8]
  refine q_le (by (first | exact B31_s (by omega) (by omega) | exact B31_of _ | (constructor <;> omega))) (by (first | exact B31_s (by omega) (by omega) | exact B31_of _ | (constructor <;> omega))) (fun h => ?_) (fun h => ?_)
  · have e1 : plw σ k = fN σ (AT σ k) := lf_eq (Nat.le_refl _) (fun j hj => hnb j (by omega)) (fun h => absurd h (Nat.lt_irrefl _))
    rw [← e1]
    exact hq _ _ _ _ _ _ _ _
  · refine And.intro (eI_in (by omega) (by omega) (by omega)) ?_; (try simp (disch := omega) only [eI_cl, Int.toNat_natCast])
    rw [eL m (by omega)]
    have hb2 := fS_bd O (h := AT σ k) (a := m + 1) (by omega)
    (try simp only [eI_lit, eI_neg, eI_add, eI_sub, eI_mul, eF_ap, upd_eF])
    have e2 : 1 + fS σ (AT σ k) m + LG σ (fK σ (AT σ k) m) = 1 + fS σ (AT σ k) (m + 1) := by
      have : fS σ (AT σ k) (m + 1) = fS σ (AT σ k) m + LG σ (fK σ (AT σ k) m) := rfl
      omega
    rw [e2, ← ek]
    refine L_haltLong HH (by omega) (by omega) ?_
    rw [ek]
    refine q_le (by (first | exact B31_s (by omega) (by omega) | exact B31_of _ | (constructor <;> omega))) (by (first | exact B31_s (by omega) (by omega) | exact B31_of _ | (constructor <;> omega))) (fun h2 => ?_) (fun h2 => ?_)
    · refine hs (m + 1) _ _ (by omega) ⟨by omega, rfl, by congr 1, fun j hj => ?_⟩
      by_cases hjm : j = m
      · subst hjm; omega
      · exact hnb j (by omega)
    · have e1 : plw σ k = m := lf_eq (by omega) hnb (fun _ => h2)
      rw [← e1]
      exact hq _ _ _ _ _ _ _ _
theorem C_platform {σ} (O : LOk σ) {i K L W S E P H : F32} {il hl fl d : F32} (I : LnI σ il) (HH : LnH σ hl) (FF : LnF σ fl) (D : LnK σ d) {k : Int} (hk : B31 k) {Q : Int32 → QR} (h0 : ¬ (0 ≤ k ∧ k < σ 1) → ∀ i' K' L' W' S' E' P' H', Q (-1) i' K' L' W' S' E' P' H') (hq : 0 ≤ k ∧ k < σ 1 → ∀ i' K' L' W' S' E' P' H', Q (bt (plw σ k)) i' K' L' W' S' E' P' H') : w_LongTrain_platform il i hl fl K L W S E P H d (eI k) Q := by
  unfold w_LongTrain_platform
  refine C_isHalt O I hk (fun a1 a2 => ?_) (fun a => by (first | refine z0T ?_ | refine z0N ?_); exact h0 a _ _ _ _ _ _ _ _)
  (first | refine z1T ?_ | refine z1N ?_)
  exact C_atPlatform O I HH FF D a1 a2 (hq ⟨a1, a2⟩)
