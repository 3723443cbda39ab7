/-! loads: the reference -/
theorem M_has {c : Int32} {k : Nat} (hk : k < 32) {Q : Int32 → Prop} (h1 : bitN c k = true → Q 1) (h0 : bitN c k = false → Q 0) : w_LongTrainModel_has c (eI k) Q := by
  unfold w_LongTrainModel_has
  refine ⟨fun h => h0 ?_, fun h => h1 ((has_bit hk).mp h)⟩
  cases hb : bitN c k with
  | false => rfl
  | true => exact absurd ((has_bit hk).mpr hb) h
def bS (s : Nat) : Nat → Bool := bitN (eI s)
def orN (s w : Nat) : Nat := (eI (s : Int) ||| ((1 : Int32) <<< (eI (w : Int) &&& 31))).toInt.toNat
theorem or_tab : ∀ s : Fin 256, ∀ w : Fin 8, 0 ≤ (eI (s.1 : Int) ||| ((1 : Int32) <<< (eI (w.1 : Int) &&& 31))).toInt ∧ (eI (s.1 : Int) ||| ((1 : Int32) <<< (eI (w.1 : Int) &&& 31))).toInt < 256 := by decide +kernel
theorem or_ok {s w : Nat} (hs : s < 256) (hw : w < 8) : eI (orN s w) = (eI (s : Int) ||| ((1 : Int32) <<< (eI (w : Int) &&& 31))) ∧ orN s w < 256 := by
  have h := or_tab ⟨s, hs⟩ ⟨w, hw⟩
  have h1 : 0 ≤ (eI (s : Int) ||| ((1 : Int32) <<< (eI (w : Int) &&& 31))).toInt := h.1
  have h2 : (eI (s : Int) ||| ((1 : Int32) <<< (eI (w : Int) &&& 31))).toInt < 256 := h.2
  refine ⟨?_, by unfold orN; omega⟩
  have e : ((orN s w : Nat) : Int) = (eI (s : Int) ||| ((1 : Int32) <<< (eI (w : Int) &&& 31))).toInt := by unfold orN; omega
  rw [e, eI_of]
theorem bS_or {s w : Nat} (hs : s < 256) (hw : w < 8) : ∀ k, bS (orN s w) k = (bS s k || decide (k = w)) := fun k => by
  unfold bS
  rw [(or_ok hs hw).1]
  by_cases hk : k < 32
  · exact or_bit (by omega) hk
  · have h1 : ∀ c : Int32, bitN c k = false := fun c => BitVec.getLsbD_of_ge _ _ (by omega)
    rw [h1, h1]
    have : k ≠ w := by omega
    simp [this]
noncomputable def Gs (r : Nat → Nat) (m s i : Nat) : Int := gG (bS s) r i (m - i)
noncomputable def slN (r : Nat → Nat) (m s i : Nat) : Nat := lf (fun w => w < r i ∧ bS s w = false ∧ 1 + Gs r m (orN s w) (i + 1) = Gs r m s i) 8
noncomputable def csN (r : Nat → Nat) (m : Nat) : Nat → Nat
  | 0 => 0
  | i + 1 => if slN r m (csN r m i) i < 8 then orN (csN r m i) (slN r m (csN r m i) i) else csN r m i
noncomputable def ldA (r : Nat → Nat) (m i : Nat) : Int := if slN r m (csN r m i) i < 8 then (slN r m (csN r m i) i : Int) else -1
theorem csN_lt (r : Nat → Nat) (m : Nat) : ∀ i, csN r m i < 256
  | 0 => by show 0 < 256; omega
  | i + 1 => by
    have h := csN_lt r m i
    unfold csN
    split
    · rename_i hl; exact (or_ok h hl).2
    · exact h
theorem M_freeAt2 {σ} (O : LOk σ) {i w f b : F32} {h : Int} (h0 : 0 ≤ h) (h1 : h < 400) {Q : F32 → F32 → F32 → F32 → Prop} (hq : ∀ i' w' f' b', (∀ q, q ≠ 27 → q ≠ 28 → i' q = i q) → i' 27 = eI (fN σ h) → (∀ j, j < fN σ h → w' j = eI (fK σ h j)) → (∀ j, j < fN σ h → f' j = eI (fo σ (fK σ h) h j)) → Q i' w' f' b') : w_LongTrainModel_freeAt i (eF σ) w f b (eI h) Q := by
  unfold w_LongTrainModel_freeAt
  (try simp only [eI_lit, eI_neg, eI_add, eI_sub, eI_mul, eF_ap, upd_eF])
  refine M_free O (by omega) (by omega) (fun w' hw => ?_)
  refine M_stands O (n := fN σ h) (k := fK σ h) (Nat.le_trans (fN_18 O h) (by omega)) upd_s hw (fK_ok O h) h0 h1 (fun f' b' hf hb => ?_)
  exact hq _ _ _ _ (fun q a1 a2 => by rw [upd_n a2, upd_n a1]) (by rw [upd_n (by omega), upd_s]; rfl) hw hf
theorem M_platformOf2 {σ} (O : LOk σ) {i w f b : F32} {k : Int} (a1 : 0 ≤ k) (a2 : k < σ 1) {Q : Int32 → F32 → F32 → F32 → F32 → Prop} (hq : ∀ i' w' f' b', (∀ q, q ≠ 27 → q ≠ 28 → i' q = i q) → Q (bt (plw σ k)) i' w' f' b') : w_LongTrainModel_platformOf i (eF σ) w f b (eI k) Q := by
  have hu := O.u
  have hc := O.hc
  have hkc := O.kc
  have ha := at_k O a1 a2
  have hh := hl_k O a1 a2
  unfold w_LongTrainModel_platformOf
  refine M_haltAt a1 (by omega) ?_
  refine M_freeAt2 O ha.1 (by omega) (fun i2 w2 f2 b2 k2 hn hw hf => ?_)
  have h18 := fN_18 O (AT σ k)
  have hkk := fK_ok O (AT σ k)
  obtain ⟨p1, p2, p3⟩ := lf_sp (fun m => HL σ k < 1 + fS σ (AT σ k) (m + 1)) (fN σ (AT σ k))
  refine lg_LongTrainModel_platformOf_13 (G := Nat) (fun m x2 x3 => m ≤ fN σ (AT σ k) ∧ x2 = bt (min m (plw σ k)) ∧ x3 = eI m) (fun m => fN σ (AT σ k) - m) ?_ 0 ⟨by omega, by rw [Nat.min_eq_left (Nat.zero_le _)]; rfl, rfl⟩
  rintro kr m x2 x3 ⟨hm, rfl, rfl⟩ hs
  unfold b_LongTrainModel_platformOf_13
  rw [hn]
  refine q_le (by (first | exact B31_s (by omega) (by omega) | exact B31_of _ | (constructor <;> omega))) (by (first | exact B31_s (by omega) (by omega) | exact B31_of _ | (constructor <;> omega))) (fun h => ?_) (fun h => ?_)
  · have e : min m (plw σ k) = plw σ k := by unfold plw; omega
    rw [e]
    exact hq _ _ _ _ k2
  · have hk1 := hkk m (by omega)
    refine And.intro (eI_in (by omega) (by omega) (by omega)) ?_; refine And.intro (eI_in (by omega) (by omega) (by omega)) ?_; (try simp (disch := omega) only [eI_cl, Int.toNat_natCast])
    rw [hw m (by omega), hf m (by omega)]
    refine M_longOf hk1.1 (by omega) ?_
    refine M_haltAt a1 (by omega) ?_
    (try simp only [eI_lit, eI_neg, eI_add, eI_sub, eI_mul, eF_ap, upd_eF])
    refine And.intro (eI_in (by omega) (by omega) (by omega)) ?_; (try simp (disch := omega) only [eI_cl, Int.toNat_natCast])
    have e1 : σ (411 + 3 * k + 1).toNat = HL σ k := rfl
    have e2 : fo σ (fK σ (AT σ k)) (AT σ k) m - LG σ (fK σ (AT σ k) m) + 1 = AT σ k - fS σ (AT σ k) (m + 1) := by
      unfold fo fS
      rw [sm]
      omega
    have hb2 := fS_bd O (h := AT σ k) (a := m + 1) (by omega)
    rw [e1, e2]
    refine q_le (by (first | exact B31_s (by omega) (by omega) | exact B31_of _ | (constructor <;> omega))) (by (first | exact B31_s (by omega) (by omega) | exact B31_of _ | (constructor <;> omega))) (fun h2 => ?_) (fun h2 => ?_)
    · refine hs (m + 1) _ _ (by omega) ⟨by omega, ?_, by congr 1⟩
      have : plw σ k ≤ m := by
        rcases Nat.lt_or_ge m (plw σ k) with hlt | hge
        · exact absurd (by omega) (p2 m hlt)
        · exact hge
      congr 1; omega
    · refine hs (m + 1) _ _ (by omega) ⟨by omega, ?_, by congr 1⟩
      have : m < plw σ k := by
        rcases Nat.lt_or_ge m (plw σ k) with hlt | hge
        · exact hlt
        · have h5 := p3 (Nat.lt_of_le_of_lt hge (by omega))
          have h6 := fS_mono O (h := AT σ k) (a := plw σ k + 1) (b := m + 1) (by omega) (by omega)
          have h7 : HL σ k < 1 + fS σ (AT σ k) (plw σ k + 1) := h5
          omega
      have e3 : min m (plw σ k) = m := by omega
      have e4 : min (m + 1) (plw σ k) = m + 1 := by omega
      rw [e3, e4]
      exact bt_s' (by omega)
theorem bt_tab : ∀ c : Fin 19, ∀ w : Fin 8, bitN (bt c.1) w.1 = decide (w.1 < c.1) := by decide +kernel
theorem bt_and {a f w : Nat} (ha : a ≤ 18) (hf : f ≤ 8) (hw : w < 8) : bitN (bt a &&& bt f) w = decide (w < min a f) := by
  have h1 : bitN (bt a) w = decide (w < a) := bt_tab ⟨a, by omega⟩ ⟨w, hw⟩
  have h2 : bitN (bt f) w = decide (w < f) := bt_tab ⟨f, by omega⟩ ⟨w, hw⟩
  have h3 : bitN (bt a &&& bt f) w = (bitN (bt a) w && bitN (bt f) w) := by
    unfold bitN
    rw [Int32.toBitVec_and, BitVec.getLsbD_and]
  rw [h3, h1, h2]
  by_cases ca : w < a
  · by_cases cf : w < f
    · have : w < min a f := by omega
      simp [ca, cf, this]
    · have : ¬ w < min a f := by omega
      simp [cf, this]
  · have : ¬ w < min a f := by omega
    simp [ca, this]
theorem oct_bd (x : Int32) : 0 ≤ (x &&& 255).toInt ∧ (x &&& 255).toInt < 256 := by
  have h : (x &&& 255).toBitVec = x.toBitVec &&& 255#32 := by rw [Int32.toBitVec_and]; rfl
  have h2 : (x &&& 255).toInt = (x &&& 255).toBitVec.toInt := rfl
  rw [h2, h]
  have hn : (x.toBitVec &&& 255#32).toNat ≤ 255 := by rw [BitVec.toNat_and]; exact Nat.and_le_right
  rw [BitVec.toInt_eq_toNat_of_lt (by omega)]
  omega
noncomputable def rch (σ : Nat → Int) (t : F32) (i : Nat) : Nat := min (plw σ (t i &&& 255).toInt) (σ 10).toNat
theorem rch_8 {σ : Nat → Int} (O : LOk σ) (t : F32) (i : Nat) : rch σ t i ≤ 8 := by
  have := O.fc
  unfold rch
  omega
def ldOk (σ : Nat → Int) (t : F32) (n : Nat) : Prop := (1 ≤ n ∧ n ≤ 8) ∧ ∀ j, j < n → (t j &&& 255).toInt < σ 1
theorem M_loads {σ : Nat → Int} (O : LOk σ) {i tp lm ml w f b la : F32} {n : Nat} (hn : n ≤ 940) (h2 : i 2 = eI n) {Q : Int32 → F32 → F32 → F32 → F32 → F32 → F32 → F32 → Prop} (h0 : ¬ ldOk σ tp n → ∀ i' lm' ml' w' f' b', KL i i' → i' 2 = 0 → Q (-1) i' lm' ml' w' f' b' la) (hq : ldOk σ tp n → ∀ i' lm' ml' w' f' b' la', (∀ k, k = 15 ∨ k = 33 ∨ k = 44 → i' k = i k) → i' 2 = 0 → i' 38 = eI n → (∀ j, j < n → la' j = eI (ldA (rch σ tp) n j)) → Q (eI (Gs (rch σ tp) n 0 0)) i' lm' ml' w' f' b' la') : w_LongTrainModel_loads i tp (eF σ) lm ml w f b la Q := by
  have hhc := O.hc
  have hfc := O.fc
  unfold w_LongTrainModel_loads w_LongTrainModel_taken
  generalize hI : upd (upd (upd (upd (upd i 0 0) 3 (upd i 0 0 2)) 2 0) 4 0) 5 940 = i1
  have i13 : i1 3 = eI n := by rw [← hI, upd_n (by omega), upd_n (by omega), upd_n (by omega), upd_s, upd_n (by omega), h2]
  have i12 : i1 2 = 0 := by rw [← hI, upd_n (by omega), upd_n (by omega), upd_s]
  have kl : ∀ k, k = 15 ∨ k = 33 ∨ k = 38 ∨ k = 44 → i1 k = i k := fun k hk => by rw [← hI, upd_n (by omega), upd_n (by omega), upd_n (by omega), upd_n (by omega), upd_n (by omega)]
  simp only [i13]
  refine M_isIn (b := 1) (c := 8) (by (first | exact B31_s (by omega) (by omega) | exact B31_of _ | (constructor <;> omega))) (by (first | exact B31_s (by omega) (by omega) | exact B31_of _ | (constructor <;> omega))) (by (first | exact B31_s (by omega) (by omega) | exact B31_of _ | (constructor <;> omega))) (fun a1 a2 => ?_) (fun a => ?_)
  · (first | refine z1T ?_ | refine z1N ?_)
    refine lg_LongTrainModel_loads_29 (G := Nat) (fun g x => g ≤ n ∧ x = eI g ∧ ∀ j, j < g → (tp j &&& 255).toInt < σ 1) (fun g => n - g) ?_ 0 ⟨by omega, rfl, fun j hj => absurd hj (Nat.not_lt_zero _)⟩
    rintro kr g x ⟨hg, rfl, hall⟩ hs
    unfold b_LongTrainModel_loads_29
    rw [i13]
    refine q_le (by (first | exact B31_s (by omega) (by omega) | exact B31_of _ | (constructor <;> omega))) (by (first | exact B31_s (by omega) (by omega) | exact B31_of _ | (constructor <;> omega))) (fun h => ?_) (fun h => ?_)
    · have eg : g = n := by omega
      subst eg
      have hok : ldOk σ tp g := ⟨by omega, hall⟩
      have hq' := hq hok
      have r8 := rch_8 O tp
      refine lg_LongTrainModel_loads_59 (G := Nat) (fun q x i' lm' w' f' b' => q ≤ g ∧ x = eI q ∧ (∀ z, z ≠ 27 → z ≠ 28 → i' z = i1 z) ∧ ∀ j, j < q → ∀ z, z < 8 → bitN (lm' j) z = decide (z < rch σ tp j)) (fun q => g - q) ?_ 0 ⟨by omega, rfl, fun _ _ _ => rfl, fun j hj => absurd hj (Nat.not_lt_zero _)⟩
      rintro kr q x i2 lm2 w2 f2 b2 ⟨hqg, rfl, hi2, hlm⟩ hs2
      unfold b_LongTrainModel_loads_59
      rw [hi2 3 (by omega) (by omega), i13]
      refine q_le (by (first | exact B31_s (by omega) (by omega) | exact B31_of _ | (constructor <;> omega))) (by (first | exact B31_s (by omega) (by omega) | exact B31_of _ | (constructor <;> omega))) (fun h3 => ?_) (fun h3 => ?_)
      · have eq : q = g := by omega
        subst eq
        have i23 : i2 3 = eI q := by rw [hi2 3 (by omega) (by omega), i13]
        refine lg_LongTrainModel_loads_102 (G := Nat) (fun z x ml' => z ≤ 256 ∧ x = eI z ∧ ∀ s, s < z → ml' (256 * q + s) = eI 0) (fun z => 256 - z) ?_ 0 ⟨by omega, rfl, fun j hj => absurd hj (Nat.not_lt_zero _)⟩
        rintro kr z x ml2 ⟨hz, rfl, hml⟩ hs3
        unfold b_LongTrainModel_loads_102
        refine q_le (a := 256) (by (first | exact B31_s (by omega) (by omega) | exact B31_of _ | (constructor <;> omega))) (by (first | exact B31_s (by omega) (by omega) | exact B31_of _ | (constructor <;> omega))) (fun h4 => ?_) (fun h4 => ?_)
        · have ez : z = 256 := by omega
          subst ez
          rw [i23]
          (try simp only [eI_lit, eI_neg, eI_add, eI_sub, eI_mul, eF_ap, upd_eF])
          refine lg_LongTrainModel_loads_138 (G := Nat) (fun u x ml' => u ≤ q ∧ x = eI ((u : Int) - 1) ∧ ∀ v, u ≤ v → v ≤ q → ∀ s, s < 256 → ml' (256 * v + s) = eI (Gs (rch σ tp) q s v)) (fun u => u) ?_ q ⟨Nat.le_refl _, rfl, fun v h5 h6 s hsl => by
            have ev : v = q := by omega
            rw [ev, hml s hsl]
            unfold Gs
            rw [Nat.sub_self, gG_0]⟩
          rintro kr u x ml3 ⟨huq, rfl, hml3⟩ hs4
          unfold b_LongTrainModel_loads_138
          refine q_lt (b := 0) (by (first | exact B31_s (by omega) (by omega) | exact B31_of _ | (constructor <;> omega))) (by (first | exact B31_s (by omega) (by omega) | exact B31_of _ | (constructor <;> omega))) (fun h5 => ?_) (fun h5 => ?_)
          · have eu : u = 0 := by omega
            subst eu
            have fin : ∀ la', (∀ j, j < q → la' j = eI (ldA (rch σ tp) q j)) → Q (ml3 0) (upd i2 38 (i2 3)) lm2 ml3 w2 f2 b2 la' := fun la' hla => by
              have e0 : ml3 0 = eI (Gs (rch σ tp) q 0 0) := hml3 0 (Nat.le_refl _) (by omega) 0 (by omega)
              rw [e0]
              refine hq' _ _ _ _ _ _ _ (fun k hk => ?_) ?_ ?_ hla
              · rw [upd_n (by omega), hi2 k (by omega) (by omega)]; exact kl k (by omega)
              · rw [upd_n (by omega), hi2 2 (by omega) (by omega)]; exact i12
              · rw [upd_s, i23]
            refine lg_LongTrainModel_loads_281 (G := Nat) (fun v x1 x2 la' => v ≤ q ∧ x1 = eI (csN (rch σ tp) q v) ∧ x2 = eI v ∧ ∀ j, j < v → la' j = eI (ldA (rch σ tp) q j)) (fun v => q - v) ?_ 0 ⟨by omega, rfl, rfl, fun j hj => absurd hj (Nat.not_lt_zero _)⟩
            rintro kr v x1 x2 la2 ⟨hvq, rfl, rfl, hla⟩ hs5
            have hcs := csN_lt (rch σ tp) q v
            unfold b_LongTrainModel_loads_281
            rw [upd_n (by omega), i23]
            refine q_le (by (first | exact B31_s (by omega) (by omega) | exact B31_of _ | (constructor <;> omega))) (by (first | exact B31_s (by omega) (by omega) | exact B31_of _ | (constructor <;> omega))) (fun h6 => ?_) (fun h6 => ?_)
            · have hf9 := fin _ (fun j hj => hla j (by omega))
              rw [i23] at hf9
              exact hf9
            · have done : ∀ y : Nat, y ≤ 8 → slN (rch σ tp) q (csN (rch σ tp) q v) v = y → j_LongTrainModel_loads_359 la2 (eI (csN (rch σ tp) q v)) (eI v) (eI y) kr := fun y hy hsl => by
                unfold j_LongTrainModel_loads_359
                (try simp only [eI_lit, eI_neg, eI_add, eI_sub, eI_mul, eF_ap, upd_eF])
                refine q_le (by (first | exact B31_s (by omega) (by omega) | exact B31_of _ | (constructor <;> omega))) (by (first | exact B31_s (by omega) (by omega) | exact B31_of _ | (constructor <;> omega))) (fun h7 => ?_) (fun h7 => ?_)
                · refine And.intro (eI_in (by omega) (by omega) (by omega)) ?_; (try simp (disch := omega) only [eI_cl, Int.toNat_natCast])
                  refine q_le (by (first | exact B31_s (by omega) (by omega) | exact B31_of _ | (constructor <;> omega))) (by (first | exact B31_s (by omega) (by omega) | exact B31_of _ | (constructor <;> omega))) (fun _ => ?_) (fun h => by omega)
                  have hld : ldA (rch σ tp) q v = -1 := by unfold ldA; rw [if_neg (by omega)]
                  refine hs5 (v + 1) _ _ _ (by omega) ⟨by omega, by rw [csN, if_neg (by omega)], by congr 1, fun j hj => ?_⟩
                  by_cases ej : j = v
                  · subst ej; rw [upd_s, hld]
                  · rw [upd_n ej]; exact hla j (by omega)
                · refine And.intro (eI_in (by omega) (by omega) (by omega)) ?_; (try simp (disch := omega) only [eI_cl, Int.toNat_natCast])
                  refine q_le (by (first | exact B31_s (by omega) (by omega) | exact B31_of _ | (constructor <;> omega))) (by (first | exact B31_s (by omega) (by omega) | exact B31_of _ | (constructor <;> omega))) (fun h => by omega) (fun _ => ?_)
                  have hld : ldA (rch σ tp) q v = y := by unfold ldA; rw [if_pos (by omega), hsl]
                  refine hs5 (v + 1) _ _ _ (by omega) ⟨by omega, ?_, by congr 1, fun j hj => ?_⟩
                  · rw [csN, if_pos (by omega), hsl, (or_ok hcs (by omega)).1]
                    rfl
                  · by_cases ej : j = v
                    · subst ej; rw [upd_s, hld]
                    · rw [upd_n ej]; exact hla j (by omega)
              refine lg_LongTrainModel_loads_291 (G := Nat) (fun y x => y ≤ 8 ∧ x = eI y ∧ ∀ z, z < y → ¬ (z < rch σ tp v ∧ bS (csN (rch σ tp) q v) z = false ∧ 1 + Gs (rch σ tp) q (orN (csN (rch σ tp) q v) z) (v + 1) = Gs (rch σ tp) q (csN (rch σ tp) q v) v)) (fun y => 8 - y) ?_ 0 ⟨by omega, rfl, fun j hj => absurd hj (Nat.not_lt_zero _)⟩
              rintro kr6 y x ⟨hy, rfl, hnb⟩ hs6
              unfold b_LongTrainModel_loads_291
              refine q_le (a := 8) (by (first | exact B31_s (by omega) (by omega) | exact B31_of _ | (constructor <;> omega))) (by (first | exact B31_s (by omega) (by omega) | exact B31_of _ | (constructor <;> omega))) (fun h7 => ?_) (fun h7 => ?_)
              · exact done y hy (lf_eq hy hnb (fun h => by omega))
              · have next : ¬ (y < rch σ tp v ∧ bS (csN (rch σ tp) q v) y = false ∧ 1 + Gs (rch σ tp) q (orN (csN (rch σ tp) q v) y) (v + 1) = Gs (rch σ tp) q (csN (rch σ tp) q v) v) → kr6 (eI y + 1) := fun hno => by
                  refine hs6 (y + 1) _ (by omega) ⟨by omega, by (try simp only [eI_lit, eI_neg, eI_add, eI_sub, eI_mul, eF_ap, upd_eF]); congr 1, fun z hz => ?_⟩
                  by_cases ez : z = y
                  · subst ez; exact hno
                  · exact hnb z (by omega)
                refine And.intro (eI_in (by omega) (by omega) (by omega)) ?_; (try simp (disch := omega) only [eI_cl, Int.toNat_natCast])
                have hlv := hlm v (by omega) y (by omega)
                refine M_has (by omega) (fun hb => ?_) (fun hb => ?_)
                · (first | refine z1T ?_ | refine z1N ?_)
                  have hy2 : y < rch σ tp v := by rw [hb] at hlv; exact of_decide_eq_true hlv.symm
                  refine M_has (by omega) (fun hb2 => ?_) (fun hb2 => ?_)
                  · (first | refine z1T ?_ | refine z1N ?_)
                    refine next (fun hc => ?_)
                    have h9 := hc.2.1
                    unfold bS at h9
                    rw [hb2] at h9
                    exact absurd h9 (by decide)
                  · (first | refine z0T ?_ | refine z0N ?_)
                    have hor := or_ok hcs (w := y) (by omega)
                    rw [← hor.1]
                    have g1 := gG_bd (bS (orN (csN (rch σ tp) q v) y)) (rch σ tp) (q - (v + 1)) (v + 1) r8
                    have g2 := gG_bd (bS (csN (rch σ tp) q v)) (rch σ tp) (q - v) v r8
                    have ei1 : (256 * ((v : Int) + 1) + (orN (csN (rch σ tp) q v) y : Int)).toNat = 256 * (v + 1) + orN (csN (rch σ tp) q v) y := by omega
                    have ei2 : (256 * (v : Int) + (csN (rch σ tp) q v : Int)).toNat = 256 * v + csN (rch σ tp) q v := by omega
                    (try simp only [eI_lit, eI_neg, eI_add, eI_sub, eI_mul, eF_ap, upd_eF]); refine And.intro (eI_in (by omega) (by omega) (by omega)) ?_; refine And.intro (eI_in (by omega) (by omega) (by omega)) ?_; (try simp (disch := omega) only [eI_cl, Int.toNat_natCast])
                    rw [ei1, ei2, hml3 (v + 1) (by omega) (by omega) _ hor.2, hml3 v (by omega) (by omega) _ hcs]
                    (try simp only [eI_lit, eI_neg, eI_add, eI_sub, eI_mul, eF_ap, upd_eF])
                    refine q_eq (by unfold Gs; (first | exact B31_s (by omega) (by omega) | exact B31_of _ | (constructor <;> omega))) (by unfold Gs; (first | exact B31_s (by omega) (by omega) | exact B31_of _ | (constructor <;> omega))) (fun h8 => ?_) (fun h8 => ?_)
                    · exact done y (by omega) (lf_eq (by omega) hnb (fun _ => ⟨hy2, hb2, h8⟩))
                    · have := next (fun hc => h8 hc.2.2)
                      simp only [eI_lit, eI_add] at this
                      exact this
                · (first | refine z0T ?_ | refine z0N ?_)
                  refine next (fun hc => ?_)
                  rw [hb] at hlv
                  exact absurd hc.1 (of_decide_eq_false hlv.symm)
          · have eu : (u : Int) - 1 = ((u - 1 : Nat) : Int) := by omega
            rw [eu]
            refine lg_LongTrainModel_loads_144 (G := Nat) (fun s x ml' => s ≤ 256 ∧ x = eI s ∧ (∀ v, u ≤ v → v ≤ q → ∀ s, s < 256 → ml' (256 * v + s) = eI (Gs (rch σ tp) q s v)) ∧ ∀ s', s' < s → ml' (256 * (u - 1) + s') = eI (Gs (rch σ tp) q s' (u - 1))) (fun s => 256 - s) ?_ 0 ⟨by omega, rfl, hml3, fun j hj => absurd hj (Nat.not_lt_zero _)⟩
            rintro kr5 s x ml4 ⟨hs256, rfl, hm4, hn4⟩ hs5
            unfold b_LongTrainModel_loads_144
            refine q_le (a := 256) (by (first | exact B31_s (by omega) (by omega) | exact B31_of _ | (constructor <;> omega))) (by (first | exact B31_s (by omega) (by omega) | exact B31_of _ | (constructor <;> omega))) (fun h6 => ?_) (fun h6 => ?_)
            · have es : s = 256 := by omega
              subst es
              (try simp only [eI_lit, eI_neg, eI_add, eI_sub, eI_mul, eF_ap, upd_eF])
              refine hs4 (u - 1) _ _ (by omega) ⟨by omega, by congr 1, fun v h7 h8 s hs => ?_⟩
              by_cases ev : v = u - 1
              · subst ev; exact hn4 s hs
              · exact hm4 v (by omega) h8 s hs
            · have hd : q - (u - 1) = (q - u) + 1 := by omega
              have hd2 : u - 1 + 1 = u := by omega
              have hGu : ∀ s', Gs (rch σ tp) q s' (u - 1) = gG (bS s') (rch σ tp) (u - 1) ((q - u) + 1) := fun s' => by unfold Gs; rw [hd]
              have hGn : ∀ s', Gs (rch σ tp) q s' u = gG (bS s') (rch σ tp) (u - 1 + 1) (q - u) := fun s' => by unfold Gs; rw [hd2]
              have lo := gG_lo (b := bS s) (r := rch σ tp) (i := u - 1) (d := q - u) (r8 _)
              rw [← hGu, ← hGn] at lo
              have hat := gG_at (b := bS s) (r := rch σ tp) (i := u - 1) (d := q - u) (r8 _)
              rw [← hGu, ← hGn] at hat
              have bdU : ∀ s' v', v' ≤ q → 0 ≤ Gs (rch σ tp) q s' v' ∧ Gs (rch σ tp) q s' v' ≤ 8 := fun s' v' _ => by
                have := gG_bd (bS s') (rch σ tp) (q - v') v' r8
                unfold Gs; omega
              have ei1 : (256 * (((u - 1 : Nat) : Int) + 1) + (s : Int)).toNat = 256 * u + s := by omega
              have ei2 : (256 * ((u - 1 : Nat) : Int) + (s : Int)).toNat = 256 * (u - 1) + s := by omega
              (try simp only [eI_lit, eI_neg, eI_add, eI_sub, eI_mul, eF_ap, upd_eF]); refine And.intro (eI_in (by omega) (by omega) (by omega)) ?_; (try simp (disch := omega) only [eI_cl, Int.toNat_natCast])
              rw [ei1, hm4 u (Nat.le_refl _) huq s (by omega)]
              refine lg_LongTrainModel_loads_169 (G := Nat) (fun y x3 x4 => y ≤ 8 ∧ x4 = eI y ∧ ∃ v : Int, x3 = eI v ∧ Gs (rch σ tp) q s u ≤ v ∧ v ≤ Gs (rch σ tp) q s (u - 1) ∧ ∀ z, z < y → z < rch σ tp (u - 1) → bS s z = false → 1 + Gs (rch σ tp) q (orN s z) u ≤ v) (fun y => 8 - y) ?_ 0 ⟨by omega, rfl, _, rfl, Int.le_refl _, lo, fun j hj => absurd hj (Nat.not_lt_zero _)⟩
              rintro kr6 y x3 x4 ⟨hy, rfl, v, rfl, hv1, hv2, hv3⟩ hs6
              have b1 := bdU s u huq
              have b2 := bdU s (u - 1) (by omega)
              unfold b_LongTrainModel_loads_169
              refine q_le (a := 8) (by (first | exact B31_s (by omega) (by omega) | exact B31_of _ | (constructor <;> omega))) (by (first | exact B31_s (by omega) (by omega) | exact B31_of _ | (constructor <;> omega))) (fun h7 => ?_) (fun h7 => ?_)
              · have ev : v = Gs (rch σ tp) q s (u - 1) := by
                  rcases hat with he | ⟨z, hz1, hz2, he⟩
                  · omega
                  · have hz8 : z < 8 := by have := r8 (u - 1); omega
                    have h9 := he (bS (orN s z)) (bS_or (by omega) hz8)
                    rw [← hGn] at h9
                    have := hv3 z (by omega) hz1 hz2
                    omega
                subst ev
                (try simp only [eI_lit, eI_neg, eI_add, eI_sub, eI_mul, eF_ap, upd_eF]); refine And.intro (eI_in (by omega) (by omega) (by omega)) ?_; (try simp (disch := omega) only [eI_cl, Int.toNat_natCast])
                rw [ei2]
                refine hs5 (s + 1) _ _ (by omega) ⟨by omega, by congr 1, fun v' h8 h9 s' hs' => ?_, fun s' hs' => ?_⟩
                · rw [upd_n (by omega)]; exact hm4 v' h8 h9 s' hs'
                · by_cases es : s' = s
                  · subst es; rw [upd_s]
                  · rw [upd_n (by omega)]; exact hn4 s' (by omega)
              · have skip : ¬ (y < rch σ tp (u - 1) ∧ bS s y = false) → kr6 (eI v) (eI y + 1) := fun hno => by
                  refine hs6 (y + 1) _ _ (by omega) ⟨by omega, by (try simp only [eI_lit, eI_neg, eI_add, eI_sub, eI_mul, eF_ap, upd_eF]); congr 1, v, rfl, hv1, hv2, fun z hz h8 h9 => ?_⟩
                  by_cases ez : z = y
                  · subst ez; exact absurd ⟨h8, h9⟩ hno
                  · exact hv3 z (by omega) h8 h9
                refine And.intro (eI_in (by omega) (by omega) (by omega)) ?_; (try simp (disch := omega) only [eI_cl, Int.toNat_natCast])
                have hlv := hlm (u - 1) (by omega) y (by omega)
                refine M_has (by omega) (fun hb => ?_) (fun hb => ?_)
                · (first | refine z1T ?_ | refine z1N ?_)
                  have hy2 : y < rch σ tp (u - 1) := by rw [hb] at hlv; exact of_decide_eq_true hlv.symm
                  refine M_has (by omega) (fun hb2 => ?_) (fun hb2 => ?_)
                  · (first | refine z1T ?_ | refine z1N ?_)
                    refine skip (fun hc => ?_)
                    have h9 := hc.2
                    unfold bS at h9
                    rw [hb2] at h9
                    exact absurd h9 (by decide)
                  · (first | refine z0T ?_ | refine z0N ?_)
                    have hor := or_ok (s := s) (w := y) (by omega) (by omega)
                    rw [← hor.1]
                    have b3 := bdU (orN s y) u huq
                    have up := gG_up (b := bS s) (b' := bS (orN s y)) (r := rch σ tp) (i := u - 1) (d := q - u) (w := y) (r8 _) hy2 hb2 (bS_or (by omega) (by omega))
                    rw [← hGu, ← hGn] at up
                    have ei3 : (256 * (((u - 1 : Nat) : Int) + 1) + (orN s y : Int)).toNat = 256 * u + orN s y := by omega
                    (try simp only [eI_lit, eI_neg, eI_add, eI_sub, eI_mul, eF_ap, upd_eF]); refine And.intro (eI_in (by omega) (by omega) (by omega)) ?_; (try simp (disch := omega) only [eI_cl, Int.toNat_natCast])
                    rw [ei3, hm4 u (Nat.le_refl _) huq _ hor.2]
                    (try simp only [eI_lit, eI_neg, eI_add, eI_sub, eI_mul, eF_ap, upd_eF])
                    refine q_le (by (first | exact B31_s (by omega) (by omega) | exact B31_of _ | (constructor <;> omega))) (by (first | exact B31_s (by omega) (by omega) | exact B31_of _ | (constructor <;> omega))) (fun h8 => ?_) (fun h8 => ?_)
                    · refine hs6 (y + 1) _ _ (by omega) ⟨by omega, by congr 1, v, rfl, hv1, hv2, fun z hz h9 h10 => ?_⟩
                      by_cases ez : z = y
                      · subst ez; exact h8
                      · exact hv3 z (by omega) h9 h10
                    · refine hs6 (y + 1) _ _ (by omega) ⟨by omega, by congr 1, _, rfl, by omega, up, fun z hz h9 h10 => ?_⟩
                      by_cases ez : z = y
                      · subst ez; exact Int.le_refl _
                      · have := hv3 z (by omega) h9 h10; omega
                · (first | refine z0T ?_ | refine z0N ?_)
                  refine skip (fun hc => ?_)
                  rw [hb] at hlv
                  exact absurd hc.1 (of_decide_eq_false hlv.symm)
        · have ei : (256 * (q : Int) + (z : Int)).toNat = 256 * q + z := by omega
          rw [i23]
          (try simp only [eI_lit, eI_neg, eI_add, eI_sub, eI_mul, eF_ap, upd_eF]); refine And.intro (eI_in (by omega) (by omega) (by omega)) ?_; (try simp (disch := omega) only [eI_cl, Int.toNat_natCast])
          rw [ei]
          refine hs3 (z + 1) _ _ (by omega) ⟨by omega, by congr 1, fun s hs => ?_⟩
          by_cases es : s = z
          · subst es; rw [upd_s]
          · rw [upd_n (by omega)]; exact hml s (by omega)
      · unfold w_LongTrainModel_octet
        refine And.intro (eI_in (by omega) (by omega) (by omega)) ?_; (try simp (disch := omega) only [eI_cl, Int.toNat_natCast])
        have ho := oct_bd (tp q)
        have hh := hall q (by omega)
        rw [← eI_of (tp q &&& 255)]
        refine M_platformOf2 O ho.1 hh (fun i3 w3 f3 b3 hi3 => ?_)
        refine And.intro (eI_in (by omega) (by omega) (by omega)) ?_; (try simp (disch := omega) only [eI_cl, Int.toNat_natCast])
        refine hs2 (q + 1) _ _ _ _ _ _ (by omega) ⟨by omega, by (try simp only [eI_lit, eI_neg, eI_add, eI_sub, eI_mul, eF_ap, upd_eF]); congr 1, fun z a b => by rw [hi3 z a b]; exact hi2 z a b, fun j hj z hz => ?_⟩
        by_cases ej : j = q
        · subst ej
          rw [upd_s]
          have ef : (((1 : Int32) <<< ((eF σ) 10 &&& 31)) - 1) = bt (σ 10).toNat := by
            unfold bt
            rw [eF_ap]
            congr 3
            have : ((σ 10).toNat : Int) = σ 10 := by omega
            rw [this]
          have hbb := bt_and (a := plw σ (tp j &&& 255).toInt) (f := (σ 10).toNat) (w := z) (plw_le O _) (by omega) hz
          have ef2 : (bt (plw σ (tp j &&& 255).toInt) &&& (((1 : Int32) <<< ((eF σ) 10 &&& 31)) - 1)) = (bt (plw σ (tp j &&& 255).toInt) &&& bt (σ 10).toNat) := by rw [ef]
          have : bitN (bt (plw σ (tp j &&& 255).toInt) &&& (((1 : Int32) <<< ((eF σ) 10 &&& 31)) - 1)) z = decide (z < rch σ tp j) := by rw [ef2]; exact hbb
          exact this
        · rw [upd_n ej]; exact hlm j (by omega) z hz
    · unfold w_LongTrainModel_octet
      refine And.intro (eI_in (by omega) (by omega) (by omega)) ?_; (try simp (disch := omega) only [eI_cl, Int.toNat_natCast])
      have ho := oct_bd (tp g)
      rw [← eI_of (tp g &&& 255)]
      refine M_isHalt O (B31_of _) (fun c1 c2 => ?_) (fun c => ?_)
      · (first | refine z1T ?_ | refine z1N ?_)
        refine hs (g + 1) _ (by omega) ⟨by omega, by (try simp only [eI_lit, eI_neg, eI_add, eI_sub, eI_mul, eF_ap, upd_eF]); congr 1, fun j hj => ?_⟩
        by_cases ej : j = g
        · subst ej; exact c2
        · exact hall j (by omega)
      · (first | refine z0T ?_ | refine z0N ?_)
        refine h0 (fun hok => ?_) _ _ _ _ _ _ kl i12
        have := hok.2 g (by omega)
        omega
  · (first | refine z0T ?_ | refine z0N ?_)
    refine h0 (fun hok => ?_) _ _ _ _ _ _ kl i12
    have := hok.1
    omega
