/-! loads: the class -/
theorem and_1 (x : Int32) : x &&& 1 = 0 ∨ x &&& 1 = 1 := by
  by_cases h : x.toBitVec.getLsbD 0 = true
  · right
    apply Int32.toBitVec_inj.mp
    rw [Int32.toBitVec_and]
    ext i hi
    by_cases h0 : i = 0
    · subst h0
      rw [BitVec.getLsbD_eq_getElem (by omega)] at h
      simp [h]
    · simp [h0]
  · left
    apply Int32.toBitVec_inj.mp
    rw [Int32.toBitVec_and]
    ext i hi
    by_cases h0 : i = 0
    · subst h0
      rw [BitVec.getLsbD_eq_getElem (by omega)] at h
      simp [h]
    · simp [h0]
theorem no_bit {c : Int32} {k : Nat} (hk : k < 32) : ((c >>> (eI k &&& 31)) &&& 1) = 0 ↔ bitN c k = false := by
  have h := has_bit (c := c) hk
  rcases and_1 (c >>> (eI k &&& 31)) with h1 | h1
  · rw [h1] at h ⊢
    refine ⟨fun _ => ?_, fun _ => rfl⟩
    cases hb : bitN c k with
    | false => rfl
    | true => exact absurd (h.mpr hb) (by decide)
  · rw [h1] at h ⊢
    have hb := h.mp rfl
    refine ⟨fun h2 => absurd h2 (by decide), fun h2 => ?_⟩
    rw [hb] at h2
    exact absurd h2 (by decide)
theorem frB_bd (b : Nat → Bool) : ∀ k : Nat, 0 ≤ frB b k ∧ frB b k ≤ k
  | 0 => ⟨Int.le_refl _, Int.le_refl _⟩
  | k + 1 => by
    have := frB_bd b k
    rw [frB]
    split <;> omega
theorem cD_bd (r : Nat → Nat) (k : Nat) : ∀ i d : Nat, cD r k i d ≤ d
  | _, 0 => Int.le_refl _
  | i, d + 1 => by
    have := cD_bd r k (i + 1) d
    rw [cD]; split <;> omega
theorem gP_bd (b : Nat → Bool) (r : Nat → Nat) (i d : Nat) : ∀ k : Nat, 0 ≤ gP b r i d k ∧ gP b r i d k ≤ frB b k
  | 0 => ⟨Int.le_refl _, Int.le_refl _⟩
  | k + 1 => by
    have h1 := gP_bd b r i d k
    have h2 := cD_nn r (k + 1) i d
    have h3 := frB_bd b (k + 1)
    rw [gP]; omega
theorem C_mostLoads {r : Nat → Nat} {m : Nat} (hm : m ≤ 8) {i rr : F32} (h9 : i 9 = eI m) (hr : ∀ j, j < m → rr j = eI (r j)) (r8 : ∀ j, r j ≤ 8) {fr : Nat} (hf : fr ≤ m) {c : Int32} {Q : Int32 → Prop} (hq : Q (eI (gG (bitN c) r fr (m - fr)))) : w_Free_mostLoads i rr (eI fr) c Q := by
  unfold w_Free_mostLoads
  refine lg_Free_mostLoads_8 (G := Nat) (fun k x3 x4 x5 => k ≤ 8 ∧ x3 = eI (gP (bitN c) r fr (m - fr) k) ∧ x4 = eI (frB (bitN c) k) ∧ x5 = eI ((k : Int) + 1)) (fun k => 8 - k) ?_ 0 ⟨by omega, rfl, rfl, rfl⟩
  rintro kr k x3 x4 x5 ⟨hk, rfl, rfl, rfl⟩ hs
  have p1 := gP_bd (bitN c) r fr (m - fr) k
  have p2 := frB_bd (bitN c) k
  have p3 := frB_bd (bitN c) (k + 1)
  unfold b_Free_mostLoads_8
  refine q_lt (a := 8) (by (first | exact B31_s (by omega) (by omega) | exact B31_of _ | (constructor <;> omega))) (by (first | exact B31_s (by omega) (by omega) | exact B31_of _ | (constructor <;> omega))) (fun h => ?_) (fun h => ?_)
  · have ek : k = 8 := by omega
    subst ek
    exact hq
  · have e1 : eI ((k : Int) + 1) - 1 = eI k := by (try simp only [eI_lit, eI_neg, eI_add, eI_sub, eI_mul, eF_ap, upd_eF]); congr 1; omega
    rw [e1]
    have e2 : eI (frB (bitN c) k) + (1 - (c >>> (eI k &&& 31) &&& 1)) = eI (frB (bitN c) (k + 1)) := by
      rw [frB]
      cases hb : bitN c k with
      | true => rw [(has_bit (by omega)).mpr hb]; simp; 
      | false => rw [(no_bit (by omega)).mpr hb]; (try simp only [eI_lit, eI_neg, eI_add, eI_sub, eI_mul, eF_ap, upd_eF]); congr 1
    rw [e2]
    have hle : frB (bitN c) k ≤ frB (bitN c) (k + 1) := by rw [frB]; split <;> omega
    refine lg_Free_mostLoads_33 (G := Nat) (fun q x3 x6 => fr ≤ q ∧ q ≤ m ∧ x6 = eI q ∧ ∃ v : Int, x3 = eI v ∧ 0 ≤ v ∧ v ≤ frB (bitN c) (k + 1) ∧ min (v + cD r (k + 1) q (m - q)) (frB (bitN c) (k + 1)) = gP (bitN c) r fr (m - fr) (k + 1)) (fun q => m - q) ?_ fr ⟨Nat.le_refl _, hf, rfl, _, rfl, p1.1, by omega, rfl⟩
    rintro kr2 q x3 x6 ⟨hq1, hq2, rfl, v, rfl, hv0, hv1, hv2⟩ hs2
    unfold b_Free_mostLoads_33
    rw [h9]
    refine q_le (by (first | exact B31_s (by omega) (by omega) | exact B31_of _ | (constructor <;> omega))) (by (first | exact B31_s (by omega) (by omega) | exact B31_of _ | (constructor <;> omega))) (fun h2 => ?_) (fun h2 => ?_)
    · have em : m - q = 0 := by omega
      rw [em] at hv2
      have h0 : cD r (k + 1) q 0 = 0 := rfl
      rw [h0] at hv2
      (try simp only [eI_lit, eI_neg, eI_add, eI_sub, eI_mul, eF_ap, upd_eF])
      refine hs (k + 1) _ _ _ (by omega) ⟨by omega, by congr 1; omega, rfl, by congr 1⟩
    · have em : m - q = (m - (q + 1)) + 1 := by omega
      rw [em, cD] at hv2
      have hc0 := cD_nn r (k + 1) (q + 1) (m - (q + 1))
      have r8q := r8 q
      refine And.intro (eI_in (by omega) (by omega) (by omega)) ?_; (try simp (disch := omega) only [eI_cl, Int.toNat_natCast])
      rw [hr q (by omega)]
      (try simp only [eI_lit, eI_neg, eI_add, eI_sub, eI_mul, eF_ap, upd_eF])
      refine q_ne (by (first | exact B31_s (by omega) (by omega) | exact B31_of _ | (constructor <;> omega))) (by (first | exact B31_s (by omega) (by omega) | exact B31_of _ | (constructor <;> omega))) (fun h3 => ?_) (fun h3 => ?_)
      · rw [if_neg (by omega)] at hv2
        exact hs2 (q + 1) _ _ (by omega) ⟨by omega, by omega, by congr 1, v, rfl, hv0, hv1, by omega⟩
      · rw [if_pos (by omega)] at hv2
        refine q_le (by (first | exact B31_s (by omega) (by omega) | exact B31_of _ | (constructor <;> omega))) (by (first | exact B31_s (by omega) (by omega) | exact B31_of _ | (constructor <;> omega))) (fun h4 => ?_) (fun h4 => ?_)
        · exact hs2 (q + 1) _ _ (by omega) ⟨by omega, by omega, by congr 1, v, rfl, hv0, hv1, by omega⟩
        · exact hs2 (q + 1) _ _ (by omega) ⟨by omega, by omega, by congr 1, v + 1, rfl, by omega, by omega, by omega⟩
theorem C_leastCarrier {r : Nat → Nat} {m : Nat} (hm : m ≤ 8) {i rr : F32} (h9 : i 9 = eI m) (hr : ∀ j, j < m → rr j = eI (r j)) (r8 : ∀ j, r j ≤ 8) {s v : Nat} (hs : s < 256) (hv : v < m) {Q : Int32 → Prop} (hq : Q (eI (if slN r m s v < 8 then (slN r m s v : Int) else -1))) : w_Free_leastCarrier i rr (eI v) (eI s) (eI (Gs r m s v)) Q := by
  have r8v := r8 v
  have g2 := gG_bd (bS s) r (m - v) v r8
  unfold w_Free_leastCarrier
  refine lg_Free_leastCarrier_3 (G := Nat) (fun y x => y ≤ r v ∧ x = eI y ∧ ∀ z, z < y → ¬ (z < r v ∧ bS s z = false ∧ 1 + Gs r m (orN s z) (v + 1) = Gs r m s v)) (fun y => r v - y) ?_ 0 ⟨by omega, rfl, fun j hj => absurd hj (Nat.not_lt_zero _)⟩
  rintro kr y x ⟨hy, rfl, hnb⟩ hst
  unfold b_Free_leastCarrier_3
  refine And.intro (eI_in (by omega) (by omega) (by omega)) ?_; (try simp (disch := omega) only [eI_cl, Int.toNat_natCast])
  rw [hr v hv]
  refine q_le (by (first | exact B31_s (by omega) (by omega) | exact B31_of _ | (constructor <;> omega))) (by (first | exact B31_s (by omega) (by omega) | exact B31_of _ | (constructor <;> omega))) (fun h => ?_) (fun h => ?_)
  · have e : slN r m s v = 8 := lf_eq (Nat.le_refl _) (fun z hz hc => hnb z (by omega) hc) (fun h => absurd h (Nat.lt_irrefl _))
    rw [e, if_neg (Nat.lt_irrefl _)] at hq
    exact hq
  · have next : ¬ (y < r v ∧ bS s y = false ∧ 1 + Gs r m (orN s y) (v + 1) = Gs r m s v) → kr (eI y + 1) := fun hno => by
      refine hst (y + 1) _ (by omega) ⟨by omega, by (try simp only [eI_lit, eI_neg, eI_add, eI_sub, eI_mul, eF_ap, upd_eF]); congr 1, fun z hz => ?_⟩
      by_cases ez : z = y
      · subst ez; exact hno
      · exact hnb z (by omega)
    refine ⟨fun hb => ?_, fun hb => ?_⟩
    · refine next (fun hc => hb ?_)
      exact (no_bit (by omega)).mpr hc.2.1
    · have hbf : bS s y = false := (no_bit (by omega)).mp hb
      have hor := or_ok (s := s) (w := y) hs (by omega)
      have g1 := gG_bd (bS (orN s y)) r (m - (v + 1)) (v + 1) r8
      have e1 : eI (v : Int) + 1 = eI ((v + 1 : Nat) : Int) := by (try simp only [eI_lit, eI_neg, eI_add, eI_sub, eI_mul, eF_ap, upd_eF]); congr 1
      rw [e1]
      refine C_mostLoads hm h9 hr r8 (fr := v + 1) (by omega) ?_
      rw [← hor.1]
      show (¬ eI (Gs r m (orN s y) (v + 1)) = _ → _) ∧ _
      (try simp only [eI_lit, eI_neg, eI_add, eI_sub, eI_mul, eF_ap, upd_eF])
      refine q_ne (by unfold Gs; (first | exact B31_s (by omega) (by omega) | exact B31_of _ | (constructor <;> omega))) (by unfold Gs; (first | exact B31_s (by omega) (by omega) | exact B31_of _ | (constructor <;> omega))) (fun h5 => ?_) (fun h5 => ?_)
      · have := next (fun hc => h5 (by omega))
        simp only [eI_lit, eI_add] at this
        exact this
      · have e : slN r m s v = y := lf_eq (by omega) hnb (fun _ => ⟨by omega, hbf, by omega⟩)
        rw [e, if_pos (by omega)] at hq
        exact hq
theorem Gs_step {r : Nat → Nat} {m s v : Nat} (r8 : ∀ j, r j ≤ 8) (hv : v < m) (hs : s < 256) : (slN r m s v < 8 → Gs r m (orN s (slN r m s v)) (v + 1) = Gs r m s v - 1) ∧ (¬ slN r m s v < 8 → Gs r m s (v + 1) = Gs r m s v) := by
  obtain ⟨a, b, c⟩ := lf_sp (fun w => w < r v ∧ bS s w = false ∧ 1 + Gs r m (orN s w) (v + 1) = Gs r m s v) 8
  have r8v := r8 v
  refine ⟨fun h => ?_, fun h => ?_⟩
  · have h2 : 1 + Gs r m (orN s (slN r m s v)) (v + 1) = Gs r m s v := (c h).2.2
    omega
  · have hd : m - v = (m - (v + 1)) + 1 := by omega
    have hat := gG_at (b := bS s) (r := r) (i := v) (d := m - (v + 1)) (r8 _)
    have e1 : Gs r m s v = gG (bS s) r v (m - (v + 1) + 1) := by unfold Gs; rw [hd]
    rcases hat with he | ⟨z, hz1, hz2, he⟩
    · rw [e1, he]; rfl
    · exfalso
      have h9 := he (bS (orN s z)) (bS_or hs (by omega))
      have hsl : slN r m s v = 8 := by unfold slN at h ⊢; omega
      refine b z (by unfold slN at hsl; omega) ⟨hz1, hz2, ?_⟩
      rw [e1, h9]; rfl
theorem C_loads {σ : Nat → Int} (O : LOk σ) {it fi tc tr rc i K L W S E P H ca : F32} {il hl fl d : F32} (I : LnI σ il) (HH : LnH σ hl) (FF : LnF σ fl) (D : LnK σ d) {n : Nat} (hn : n ≤ 940) (h1 : it 1 = eI n) (T : Tp n tc tr) {Q : Int32 → F32 → F32 → F32 → F32 → F32 → F32 → F32 → F32 → F32 → F32 → F32 → F32 → Prop} (h0 : ¬ ldOk σ tr n → ∀ it' rc' i' K' L' W' S' E' P' H', it' 2 = it 2 → it' 1 = 0 → Q (-1) it' fi rc' i' K' L' W' S' E' P' H' ca) (hq : ldOk σ tr n → ∀ it' fi' rc' i' K' L' W' S' E' P' H' ca', it' 2 = it 2 → it' 1 = 0 → fi' 9 = eI n → (∀ j, j < n → ca' j = eI (ldA (rch σ tr) n j)) → Q (eI (Gs (rch σ tr) n 0 0)) it' fi' rc' i' K' L' W' S' E' P' H' ca') : w_LongTrain_loads it fi tc il rc i hl fl K L W S E P H d ca Q := by
  have hhc := O.hc
  have hfc := O.fc
  have k1 : upd it 1 0 2 = it 2 := upd_n (by omega)
  unfold w_LongTrain_loads w_LongTrain_takeTape
  rw [h1]
  refine q_lt (b := 1) (by (first | exact B31_s (by omega) (by omega) | exact B31_of _ | (constructor <;> omega))) (by (first | exact B31_s (by omega) (by omega) | exact B31_of _ | (constructor <;> omega))) (fun h => h0 (fun hok => by have := hok.1; omega) _ _ _ _ _ _ _ _ _ _ k1 upd_s) (fun a1 => ?_)
  refine q_le (b := 8) (by (first | exact B31_s (by omega) (by omega) | exact B31_of _ | (constructor <;> omega))) (by (first | exact B31_s (by omega) (by omega) | exact B31_of _ | (constructor <;> omega))) (fun a2 => ?_) (fun h => h0 (fun hok => by have := hok.1; omega) _ _ _ _ _ _ _ _ _ _ k1 upd_s)
  refine lg_LongTrain_loads_20 (G := Nat) (fun g x => g ≤ n ∧ x = eI g ∧ ∀ j, j < g → (tr j &&& 255).toInt < σ 1) (fun g => n - g) ?_ 0 ⟨by omega, rfl, fun j hj => absurd hj (Nat.not_lt_zero _)⟩
  rintro kr g x ⟨hg, rfl, hall⟩ hs
  unfold b_LongTrain_loads_20
  refine q_le (by (first | exact B31_s (by omega) (by omega) | exact B31_of _ | (constructor <;> omega))) (by (first | exact B31_s (by omega) (by omega) | exact B31_of _ | (constructor <;> omega))) (fun h => ?_) (fun h => ?_)
  · have eg : g = n := by omega
    subst eg
    have hok : ldOk σ tr g := ⟨by omega, hall⟩
    have hq' := hq hok
    have r8 := rch_8 O tr
    unfold w_Free_loadAll
    refine lg_Free_loadAll_3 (G := Nat) (fun q x rc' i' K' L' W' S' E' P' H' => q ≤ g ∧ x = eI q ∧ ∀ j, j < q → rc' j = eI (rch σ tr j)) (fun q => g - q) ?_ 0 ⟨by omega, rfl, fun j hj => absurd hj (Nat.not_lt_zero _)⟩
    rintro kr q x rc2 i2 K2 L2 W2 S2 E2 P2 H2 ⟨hqg, rfl, hrc⟩ hs2
    unfold b_Free_loadAll_3
    have fin : q = g → j_Free_loadAll_45 fi rc2 i2 K2 L2 W2 S2 E2 P2 H2 ca (eI g) (fun z fi' rc' i' K' L' W' S' E' P' H' ca' => Q z (upd it 1 0) fi' rc' i' K' L' W' S' E' P' H' ca') := fun eq => by
      subst eq
      unfold j_Free_loadAll_45
      have f9 : upd fi 9 (eI (q : Int)) 9 = eI q := upd_s
      refine C_mostLoads (r := rch σ tr) (m := q) (by omega) f9 hrc r8 (fr := 0) (by omega) ?_
      show ∃ n, lp_Free_loadAll_68 _ _ _ _ n (eI (Gs (rch σ tr) q 0 0)) _ _ _
      refine lg_Free_loadAll_68 (G := Nat) (fun v x5 x6 x7 ca' => v ≤ q ∧ x5 = eI (Gs (rch σ tr) q (csN (rch σ tr) q v) v) ∧ x6 = eI (csN (rch σ tr) q v) ∧ x7 = eI v ∧ ∀ j, j < v → ca' j = eI (ldA (rch σ tr) q j)) (fun v => q - v) ?_ 0 ⟨by omega, rfl, rfl, rfl, fun j hj => absurd hj (Nat.not_lt_zero _)⟩
      rintro kr3 v x5 x6 x7 ca2 ⟨hvq, rfl, rfl, rfl, hca⟩ hs3
      have hcs := csN_lt (rch σ tr) q v
      unfold b_Free_loadAll_68
      refine q_le (by (first | exact B31_s (by omega) (by omega) | exact B31_of _ | (constructor <;> omega))) (by (first | exact B31_s (by omega) (by omega) | exact B31_of _ | (constructor <;> omega))) (fun h3 => ?_) (fun h3 => ?_)
      · have ev : v = q := by omega
        subst ev
        exact hq' _ _ _ _ _ _ _ _ _ _ _ _ k1 upd_s f9 hca
      · refine C_leastCarrier (r := rch σ tr) (m := q) (by omega) f9 hrc r8 hcs (by omega) ?_
        have hst := Gs_step (r := rch σ tr) (m := q) (s := csN (rch σ tr) q v) (v := v) r8 (by omega) hcs
        have hld : ldA (rch σ tr) q v = (if slN (rch σ tr) q (csN (rch σ tr) q v) v < 8 then (slN (rch σ tr) q (csN (rch σ tr) q v) v : Int) else -1) := rfl
        rw [← hld]
        have hcaN : ∀ j, j < v + 1 → upd ca2 v (eI (ldA (rch σ tr) q v)) j = eI (ldA (rch σ tr) q j) := fun j hj => by
          by_cases ej : j = v
          · subst ej; rw [upd_s]
          · rw [upd_n ej]; exact hca j (by omega)
        refine And.intro (eI_in (by omega) (by omega) (by omega)) ?_; refine And.intro (eI_in (by omega) (by omega) (by omega)) ?_; (try simp (disch := omega) only [eI_cl, Int.toNat_natCast])
        rw [upd_s]
        (try simp only [eI_lit, eI_neg, eI_add, eI_sub, eI_mul, eF_ap, upd_eF])
        by_cases hsl : slN (rch σ tr) q (csN (rch σ tr) q v) v < 8
        · rw [if_pos hsl] at hld
          have hor := or_ok hcs hsl
          have hc1 : csN (rch σ tr) q (v + 1) = orN (csN (rch σ tr) q v) (slN (rch σ tr) q (csN (rch σ tr) q v) v) := by rw [csN, if_pos hsl]
          refine q_eq (by (first | exact B31_s (by omega) (by omega) | exact B31_of _ | (constructor <;> omega))) (by (first | exact B31_s (by omega) (by omega) | exact B31_of _ | (constructor <;> omega))) (fun h5 => by omega) (fun _ => ?_)
          refine And.intro (eI_in (by omega) (by omega) (by omega)) ?_
          refine hs3 (v + 1) _ _ _ _ (by omega) ⟨by omega, ?_, ?_, by congr 1, hcaN⟩
          · rw [hc1, hst.1 hsl]; congr 1
          · rw [hc1, hor.1, hld]
            rfl
        · rw [if_neg hsl] at hld
          have hc1 : csN (rch σ tr) q (v + 1) = csN (rch σ tr) q v := by rw [csN, if_neg hsl]
          refine q_eq (by (first | exact B31_s (by omega) (by omega) | exact B31_of _ | (constructor <;> omega))) (by (first | exact B31_s (by omega) (by omega) | exact B31_of _ | (constructor <;> omega))) (fun _ => ?_) (fun h5 => by omega)
          refine hs3 (v + 1) _ _ _ _ (by omega) ⟨by omega, ?_, ?_, by congr 1, hcaN⟩
          · rw [hc1, hst.2 hsl]
          · rw [hc1]
    refine q_le (by (first | exact B31_s (by omega) (by omega) | exact B31_of _ | (constructor <;> omega))) (by (first | exact B31_s (by omega) (by omega) | exact B31_of _ | (constructor <;> omega))) (fun h3 => fin (by omega)) (fun h3 => ?_)
    refine q_le (a := 8) (by (first | exact B31_s (by omega) (by omega) | exact B31_of _ | (constructor <;> omega))) (by (first | exact B31_s (by omega) (by omega) | exact B31_of _ | (constructor <;> omega))) (fun h => by omega) (fun _ => ?_)
    refine And.intro (eI_in (by omega) (by omega) (by omega)) ?_; (try simp (disch := omega) only [eI_cl, Int.toNat_natCast])
    have ho := oct_bd (tr q)
    have hh := hall q (by omega)
    rw [T q (by omega), ← eI_of (tr q &&& 255)]
    refine C_atPlatform O I HH FF D ho.1 hh (fun i3 K3 L3 W3 S3 E3 P3 H3 => ?_)
    have hpl := plw_le O (tr q &&& 255).toInt
    refine And.intro (eI_in (by omega) (by omega) (by omega)) ?_; (try simp (disch := omega) only [eI_cl, Int.toNat_natCast])
    rw [I.fc, jmin_e (by (first | exact B31_s (by omega) (by omega) | exact B31_of _ | (constructor <;> omega))) (by (first | exact B31_s (by omega) (by omega) | exact B31_of _ | (constructor <;> omega)))]
    refine hs2 (q + 1) _ _ _ _ _ _ _ _ _ _ (by omega) ⟨by omega, by (try simp only [eI_lit, eI_neg, eI_add, eI_sub, eI_mul, eF_ap, upd_eF]); congr 1, fun j hj => ?_⟩
    by_cases ej : j = q
    · subst ej; rw [upd_s]; congr 1; unfold rch; omega
    · rw [upd_n ej]; exact hrc j (by omega)
  · refine And.intro (eI_in (by omega) (by omega) (by omega)) ?_; (try simp (disch := omega) only [eI_cl, Int.toNat_natCast])
    have ho := oct_bd (tr g)
    rw [T g (by omega), ← eI_of (tr g &&& 255)]
    refine C_isHalt O I (B31_of _) (fun c1 c2 => ?_) (fun c => ?_)
    · (first | refine z1T ?_ | refine z1N ?_)
      refine hs (g + 1) _ (by omega) ⟨by omega, by (try simp only [eI_lit, eI_neg, eI_add, eI_sub, eI_mul, eF_ap, upd_eF]); congr 1, fun j hj => ?_⟩
      by_cases ej : j = g
      · subst ej; exact c2
      · exact hall j (by omega)
    · (first | refine z0T ?_ | refine z0N ?_)
      refine h0 (fun hok => ?_) _ _ _ _ _ _ _ _ _ _ k1 upd_s
      have := hok.2 g (by omega)
      omega
