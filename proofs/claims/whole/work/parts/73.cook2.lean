/-! cook, back: the class -/
theorem FX_rw {σ : Nat → Int} {X : RW} {m : Nat} (h : X = FX σ m) : RWeq X (FX σ m) := by subst h; exact ⟨rfl, fun j _ => ⟨rfl, rfl, rfl, rfl, rfl⟩⟩
theorem R_takeW {σ} (O : LOk σ) {t q : Int} {m : Nat} (hm : m = hz σ t ∨ m = hb σ t) {i K L W S E P H : F32} (r : RowR σ (FX σ m) q m i K L W S E P H) {il hl d : F32} (I : LnI σ il) (HH : LnH σ hl) (D : LnK σ d) (h0 : 0 ≤ t) (h1 : t ≤ 400) {Q : QR} (hq : ∀ i' K' L' W' S' E' P' H', RowR σ (FX σ (hb σ t)) t (hb σ t) i' K' L' W' S' E' P' H' → Q i' K' L' W' S' E' P' H') : w_Row_takeOn (upd i 10 (eI t)) il hl K L W S E P H d Q := by
  rcases hm with rfl | rfl
  · exact R_takeF O (r.head t) I HH D h0 h1 hq
  · have hf := frn_18 O (hb_le O t)
    have e : ¬ ((hb σ t : Int) < σ 1 ∧ AT σ (hb σ t) = t) := by
      rintro ⟨h2, h3⟩
      have := (hb_sp O t h2).mpr (by omega)
      omega
    refine R_takeOn O (r.head t) I HH D (by (first | exact B31_s (by omega) (by omega) | exact B31_of _ | (constructor <;> omega))) (hb_le O _) (by show frn σ (hb σ t) < 20; omega) (fun i2 K2 L2 W2 S2 E2 P2 H2 r2 => ?_)
    have e1 : nhN σ (hb σ t) t = hb σ t := by unfold nhN; rw [if_neg e]
    have e2 : tkX σ (FX σ (hb σ t)) (hb σ t) t = FX σ (hb σ t) := by unfold tkX adN; rw [if_neg e, if_neg (by omega)]
    rw [e1, e2] at r2
    exact hq _ _ _ _ _ _ _ _ r2
theorem R_measW {σ} (O : LOk σ) {t : Int} {i K L W S E P H : F32} (r : RowR σ (FX σ (hb σ t)) t (hb σ t) i K L W S E P H) {il gl : F32} (I : LnI σ il) (G : LnG σ gl) (h0 : 0 ≤ t) (h1 : t < σ 0) {b : F32} {Q : Int32 → F32 → Prop} (hq : ∀ z b', (∀ j, j < wN σ t → b' j = eI (wB σ t j)) → Q z b') : w_Row_measure i il L gl W P b Q := by
  have hn : frn σ (hb σ t) ≤ 18 := frn_18 O (hb_le O t)
  refine R_measure O r I G (KOk.fr O (hb_le O t)) (by show frn σ (hb σ t) ≤ 20; omega) h0 (Or.inl h1) (fun b' hb => ?_)
  refine hq _ b' (fun j hj => ?_)
  rw [hb j hj, brp_0 (FX_p σ _) (Nat.le_of_lt hj)]
  rfl
theorem C_cookMin {σ} (O : LOk σ) {h : Int} (hh : h ≤ 400) {j : Nat} (hj : j < wN σ h) {fi i b S L : F32} (hi : i 8 = eI (wN σ h)) (hb : ∀ j, j < wN σ h → b j = eI (wB σ h j)) (hS : ∀ j, j < wN σ h → S j = eI (ST σ (wK σ h j))) (hL : ∀ j, j < wN σ h → L j = eI (LG σ (wK σ h j))) {on : Nat} {left steps : Int} (h5 : fi 5 = eI on) (h6 : fi 6 = eI left) (hon : on < j) (hl0 : 0 ≤ left) (hl9 : left ≤ 9) (hs0 : 0 ≤ steps) (hs9 : steps ≤ 9) {Q : Int32 → F32 → Prop} (h1 : (cm σ h (j - on) on left steps).1 = j → ∀ fi', fi' 9 = fi 9 → Q 1 fi') (h0 : ¬ (cm σ h (j - on) on left steps).1 = j → ∀ fi', fi' 9 = fi 9 → fi' 5 = eI (cm σ h (j - on) on left steps).1 → fi' 6 = eI (cm σ h (j - on) on left steps).2 → Q 0 fi') : w_Free_cookComes fi i b S L (eI steps) (eI j) Q := by
  have h18 := wN_18 O h
  unfold w_Free_cookComes
  refine lg_Free_cookComes_5 (G := Nat) (fun g x3 x4 fi' => ∃ (o : Nat) (l s : Int), g = j - o ∧ on ≤ o ∧ o ≤ j ∧ 0 ≤ l ∧ l ≤ 9 ∧ 0 ≤ s ∧ s ≤ 9 ∧ x3 = eI s ∧ x4 = eI ((o - on : Nat) : Int) ∧ fi' 9 = fi 9 ∧ fi' 5 = eI o ∧ fi' 6 = eI l ∧ ((o < j ∧ cm σ h (j - o) o l s = cm σ h (j - on) on left steps) ∨ (o = j ∧ l = 0 ∧ (cm σ h (j - on) on left steps).1 = j))) (fun g => g) ?_ (j - on) ⟨on, left, steps, rfl, Nat.le_refl _, by omega, hl0, hl9, hs0, hs9, rfl, by rw [Nat.sub_self]; rfl, rfl, h5, h6, Or.inl ⟨hon, rfl⟩⟩
  rintro kr g x3 x4 fi' ⟨o, l, s, rfl, ho1, ho2, l0, l9, s0, s9, rfl, rfl, h9, f5, f6, hd⟩ hstep
  unfold b_Free_cookComes_5
  rw [f6, jmin_e (by (first | exact B31_s (by omega) (by omega) | exact B31_of _ | (constructor <;> omega))) (by (first | exact B31_s (by omega) (by omega) | exact B31_of _ | (constructor <;> omega)))]
  have u6 : ∀ v, upd fi' 6 v 6 = v := fun _ => upd_s
  have u5 : ∀ v, upd fi' 6 v 5 = eI o := fun v => by rw [upd_n (by omega)]; exact f5
  have u9 : ∀ v, upd fi' 6 v 9 = fi 9 := fun v => by rw [upd_n (by omega)]; exact h9
  (try simp only [eI_lit, eI_neg, eI_add, eI_sub, eI_mul, eF_ap, upd_eF])
  rw [u6, u5]
  refine q_lt (by (first | exact B31_s (by omega) (by omega) | exact B31_of _ | (constructor <;> omega))) (by (first | exact B31_s (by omega) (by omega) | exact B31_of _ | (constructor <;> omega))) (fun h => by omega) (fun _ => ?_)
  refine q_le (by (first | exact B31_s (by omega) (by omega) | exact B31_of _ | (constructor <;> omega))) (by (first | exact B31_s (by omega) (by omega) | exact B31_of _ | (constructor <;> omega))) (fun h2 => ?_) (fun h2 => ?_)
  · have hls : l ≤ s := by omega
    refine q_ne (by (first | exact B31_s (by omega) (by omega) | exact B31_of _ | (constructor <;> omega))) (by (first | exact B31_s (by omega) (by omega) | exact B31_of _ | (constructor <;> omega))) (fun h3 => ?_) (fun h3 => ?_)
    · rcases hd with ⟨hoj, he⟩ | ⟨hoj, _, _⟩
      · refine q_le (by (first | exact B31_s (by omega) (by omega) | exact B31_of _ | (constructor <;> omega))) (by (first | exact B31_s (by omega) (by omega) | exact B31_of _ | (constructor <;> omega))) (fun h4 => by omega) (fun h4 => ?_)
        have e : j - o = (j - (o + 1)) + 1 := by omega
        rw [e, cm, if_neg (by omega)] at he
        unfold w_Free_cookPassesBehind
        rw [u5]
        (try simp only [eI_lit, eI_neg, eI_add, eI_sub, eI_mul, eF_ap, upd_eF])
        have ec : ((o : Int) + 1) = ((o + 1 : Nat) : Int) := by omega
        rw [ec]
        refine C_canPass O hh (c := o + 1) (by omega) (by omega) hi hb hS (fun hp => ?_) (fun hp => ?_)
        · refine ⟨fun _ => ?_, fun h => absurd h (by decide)⟩
          rw [if_pos hp] at he
          rw [upd_s]
          have em : l - min s l = 0 := by omega
          have es : s - min s l = s - l := by omega
          have ecn : ((o - on : Nat) : Int) + 1 = ((o + 1 - on : Nat) : Int) := by omega
          have hcc : ∀ v w, upd (upd (upd fi' 6 v) 5 (eI ((o + 1 : Nat) : Int))) 6 w 9 = fi 9 := fun v w => by rw [upd_n (by omega), upd_n (by omega), upd_n (by omega)]; exact h9
          refine q_ne (by (first | exact B31_s (by omega) (by omega) | exact B31_of _ | (constructor <;> omega))) (by (first | exact B31_s (by omega) (by omega) | exact B31_of _ | (constructor <;> omega))) (fun h5 => ?_) (fun h5 => ?_)
          · refine And.intro (eI_in (by omega) (by omega) (by omega)) ?_; (try simp (disch := omega) only [eI_cl, Int.toNat_natCast])
            refine ⟨fun h => absurd h (by decide), fun _ => ?_⟩
            have hlb := lg_b O (h := h) (j := o + 1) (by omega)
            rw [hL (o + 1) (by omega), es, ecn]
            exact hstep (j - (o + 1)) _ _ _ (by omega) ⟨o + 1, LG σ (wK σ h (o + 1)), s - l, rfl, by omega, by omega, by omega, by omega, by omega, by omega, rfl, rfl, hcc _ _, by rw [upd_n (by omega), upd_s], upd_s, Or.inl ⟨by omega, he⟩⟩
          · refine ⟨fun h => absurd h (by decide), fun _ => ?_⟩
            rw [es, ecn]
            have e0 : j - (o + 1) = 0 := by omega
            rw [e0] at he
            exact hstep (j - (o + 1)) _ _ _ (by omega) ⟨o + 1, 0, s - l, rfl, by omega, by omega, by omega, by omega, by omega, by omega, rfl, rfl, hcc _ _, by rw [upd_n (by omega), upd_s], upd_s, Or.inr ⟨by omega, rfl, by rw [← he]; show o + 1 = j; omega⟩⟩
        · refine ⟨fun h => by first | exact absurd rfl h | exact absurd trivial h, fun _ => ?_⟩
          rw [if_neg hp] at he
          refine ⟨fun _ => ?_, fun h => by first | exact absurd rfl h | exact absurd trivial h⟩
          refine h0 (by rw [← he]; show ¬ o = j; omega) _ (u9 _) ?_ ?_
          · rw [u5, ← he]
          · rw [u6, ← he]; congr 1; show l - min s l = 0; omega
      · omega
    · rcases hd with ⟨hoj, _⟩ | ⟨hoj, _, hR⟩
      · omega
      · exact h1 hR _ (u9 _)
  · rcases hd with ⟨hoj, he⟩ | ⟨hoj, hl, _⟩
    · have e : j - o = (j - (o + 1)) + 1 := by omega
      rw [e, cm, if_pos (by omega)] at he
      refine h0 (by rw [← he]; show ¬ o = j; omega) _ (u9 _) ?_ ?_
      · rw [u5, ← he]
      · rw [u6, ← he]; congr 1; show l - min s l = l - s; omega
    · omega
theorem C_backMin {σ} (O : LOk σ) {h : Int} (hh : h ≤ 400) {q : Nat} {fi i b S L : F32} (hi : i 8 = eI (wN σ h)) (hb : ∀ j, j < wN σ h → b j = eI (wB σ h j)) (hS : ∀ j, j < wN σ h → S j = eI (ST σ (wK σ h j))) (hL : ∀ j, j < wN σ h → L j = eI (LG σ (wK σ h j))) {on : Nat} {left steps : Int} (h5 : fi 5 = eI on) (h6 : fi 6 = eI left) (hq1 : q ≤ on) (hon : on < wN σ h) (hl0 : 0 ≤ left) (hl9 : left ≤ 9) (hs0 : 0 ≤ steps) (hs9 : steps ≤ 9) {Q : Int32 → F32 → Prop} (h1 : (bm σ h (on - q) on left steps).1 = q ∧ (bm σ h (on - q) on left steps).2 = 0 → ∀ fi', fi' 9 = fi 9 → Q 1 fi') (h0 : ¬ ((bm σ h (on - q) on left steps).1 = q ∧ (bm σ h (on - q) on left steps).2 = 0) → ∀ fi', fi' 9 = fi 9 → fi' 5 = eI (bm σ h (on - q) on left steps).1 → fi' 6 = eI (bm σ h (on - q) on left steps).2 → Q 0 fi') : w_Free_cookComes fi i b S L (eI steps) (eI q) Q := by
  have h18 := wN_18 O h
  unfold w_Free_cookComes
  refine lg_Free_cookComes_5 (G := Nat) (fun g x3 x4 fi' => ∃ (o : Nat) (l s : Int), g = o - q ∧ q ≤ o ∧ o ≤ on ∧ 0 ≤ l ∧ l ≤ 9 ∧ 0 ≤ s ∧ s ≤ 9 ∧ x3 = eI s ∧ x4 = eI ((on - o : Nat) : Int) ∧ fi' 9 = fi 9 ∧ fi' 5 = eI o ∧ fi' 6 = eI l ∧ bm σ h (o - q) o l s = bm σ h (on - q) on left steps) (fun g => g) ?_ (on - q) ⟨on, left, steps, rfl, hq1, Nat.le_refl _, hl0, hl9, hs0, hs9, rfl, by rw [Nat.sub_self]; rfl, rfl, h5, h6, rfl⟩
  rintro kr g x3 x4 fi' ⟨o, l, s, rfl, ho1, ho2, l0, l9, s0, s9, rfl, rfl, h9, f5, f6, he⟩ hstep
  unfold b_Free_cookComes_5
  rw [f6, jmin_e (by (first | exact B31_s (by omega) (by omega) | exact B31_of _ | (constructor <;> omega))) (by (first | exact B31_s (by omega) (by omega) | exact B31_of _ | (constructor <;> omega)))]
  have u6 : ∀ v, upd fi' 6 v 6 = v := fun _ => upd_s
  have u5 : ∀ v, upd fi' 6 v 5 = eI o := fun v => by rw [upd_n (by omega)]; exact f5
  have u9 : ∀ v, upd fi' 6 v 9 = fi 9 := fun v => by rw [upd_n (by omega)]; exact h9
  (try simp only [eI_lit, eI_neg, eI_add, eI_sub, eI_mul, eF_ap, upd_eF])
  rw [u6, u5]
  refine q_lt (by (first | exact B31_s (by omega) (by omega) | exact B31_of _ | (constructor <;> omega))) (by (first | exact B31_s (by omega) (by omega) | exact B31_of _ | (constructor <;> omega))) (fun h => by omega) (fun _ => ?_)
  refine q_le (by (first | exact B31_s (by omega) (by omega) | exact B31_of _ | (constructor <;> omega))) (by (first | exact B31_s (by omega) (by omega) | exact B31_of _ | (constructor <;> omega))) (fun h2 => ?_) (fun h2 => ?_)
  · have hls : l ≤ s := by omega
    refine q_ne (by (first | exact B31_s (by omega) (by omega) | exact B31_of _ | (constructor <;> omega))) (by (first | exact B31_s (by omega) (by omega) | exact B31_of _ | (constructor <;> omega))) (fun h3 => ?_) (fun h3 => ?_)
    · refine q_le (by (first | exact B31_s (by omega) (by omega) | exact B31_of _ | (constructor <;> omega))) (by (first | exact B31_s (by omega) (by omega) | exact B31_of _ | (constructor <;> omega))) (fun h4 => ?_) (fun h4 => by omega)
      have e : o - q = (o - 1 - q) + 1 := by omega
      rw [e, bm, if_neg (by omega)] at he
      unfold w_Free_cookPassesAhead
      rw [u5]
      (try simp only [eI_lit, eI_neg, eI_add, eI_sub, eI_mul, eF_ap, upd_eF])
      refine C_canPass O hh (c := o) (by omega) (by omega) hi hb hS (fun hp => ?_) (fun hp => ?_)
      · refine ⟨fun _ => ?_, fun h => absurd h (by decide)⟩
        rw [if_pos hp] at he
        rw [upd_s]
        have ec : ((o : Int) - 1) = ((o - 1 : Nat) : Int) := by omega
        rw [ec]
        have es : s - min s l = s - l := by omega
        have ecn : ((on - o : Nat) : Int) + 1 = ((on - (o - 1) : Nat) : Int) := by omega
        refine And.intro (eI_in (by omega) (by omega) (by omega)) ?_; (try simp (disch := omega) only [eI_cl, Int.toNat_natCast])
        refine ⟨fun _ => ?_, fun h => absurd h (by decide)⟩
        have hlb := lg_b O (h := h) (j := o - 1) (by omega)
        rw [hL (o - 1) (by omega), es, ecn]
        exact hstep (o - 1 - q) _ _ _ (by omega) ⟨o - 1, LG σ (wK σ h (o - 1)), s - l, rfl, by omega, by omega, by omega, by omega, by omega, by omega, rfl, rfl, by rw [upd_n (by omega), upd_n (by omega), upd_n (by omega)]; exact h9, by rw [upd_n (by omega), upd_s], upd_s, he⟩
      · refine ⟨fun h => by first | exact absurd rfl h | exact absurd trivial h, fun _ => ?_⟩
        rw [if_neg hp] at he
        refine ⟨fun h => by first | exact absurd rfl h | exact absurd trivial h, fun _ => ?_⟩
        refine h0 (by rw [← he]; show ¬ (o = q ∧ _); omega) _ (u9 _) ?_ ?_
        · rw [u5, ← he]
        · rw [u6, ← he]; congr 1; show l - min s l = 0; omega
    · have e : o - q = 0 := by omega
      rw [e, bm, if_neg (by omega)] at he
      exact h1 (by rw [← he]; exact ⟨by show o = q; omega, rfl⟩) _ (u9 _)
  · have e : (o, l - s) = bm σ h (on - q) on left steps := by
      rw [← he]
      cases hn : o - q with
      | zero => rw [bm, if_pos (by omega)]
      | succ n => rw [bm, if_pos (by omega)]
    refine h0 (by rw [← e]; show ¬ (o = q ∧ l - s = 0); omega) _ (u9 _) ?_ ?_
    · rw [u5, ← e]
    · rw [u6, ← e]; congr 1; show l - min s l = l - s; omega
abbrev QR10 := F32 → QR9
theorem C_cooksWay {σ} (O : LOk σ) {i K L W S E P H : F32} {il hl fl d : F32} (I : LnI σ il) (HH : LnH σ hl) (FF : LnF σ fl) (D : LnK σ d) {x y a : Int} (hx : B31 x) (hy : B31 y) (ha : B31 a) {Q : Int32 → QR} (h1 : (0 ≤ a ∧ a < σ 0) ∧ 0 ≤ x ∧ x ≤ y ∧ y < wN σ a → ∀ i' K' L' W' S' E' P' H', Q 1 i' K' L' W' S' E' P' H') (h0 : ¬ ((0 ≤ a ∧ a < σ 0) ∧ 0 ≤ x ∧ x ≤ y ∧ y < wN σ a) → ∀ i' K' L' W' S' E' P' H', Q 0 i' K' L' W' S' E' P' H') : w_LongTrain_isCooksWay il i hl fl K L W S E P H d (eI x) (eI y) (eI a) Q := by
  have hu := O.u
  have h18 := wN_18 O a
  unfold w_LongTrain_isCooksWay
  refine C_isUnit O I ha (fun a1 a2 => ?_) (fun h => by (first | refine z0T ?_ | refine z0N ?_); exact h0 (by omega) _ _ _ _ _ _ _ _)
  (first | refine z1T ?_ | refine z1N ?_)
  (try simp only [eI_lit, eI_neg, eI_add, eI_sub, eI_mul, eF_ap, upd_eF])
  refine q_lt hx (by (first | exact B31_s (by omega) (by omega) | exact B31_of _ | (constructor <;> omega))) (fun h => h0 (by omega) _ _ _ _ _ _ _ _) (fun b1 => ?_)
  refine q_lt hy hx (fun h => h0 (by omega) _ _ _ _ _ _ _ _) (fun b2 => ?_)
  unfold w_Free_hasWagon
  refine R_start O I HH FF D a1 (by omega) (fun i' K' L' W' S' E' P' H' r => ?_)
  have e8 : i' 8 = eI (wN σ a) := r.sz
  rw [e8]
  (try simp only [eI_lit, eI_neg, eI_add, eI_sub, eI_mul, eF_ap, upd_eF])
  refine q_lt hy (by (first | exact B31_s (by omega) (by omega) | exact B31_of _ | (constructor <;> omega))) (fun h => by omega) (fun b3 => ?_)
  refine q_le (by (first | exact B31_s (by omega) (by omega) | exact B31_of _ | (constructor <;> omega))) hy (fun h => ?_) (fun h => ?_)
  · refine ⟨fun _ => h0 (by omega) _ _ _ _ _ _ _ _, fun h => by first | exact absurd rfl h | exact absurd trivial h⟩
  · refine ⟨fun h => absurd h (by decide), fun _ => h1 ⟨⟨a1, a2⟩, b1, b2, h⟩ _ _ _ _ _ _ _ _⟩
theorem C_cook {σ} (O : LOk σ) {fi i K L W S E P H b : F32} {il gl hl fl d : F32} (I : LnI σ il) (G : LnG σ gl) (HH : LnH σ hl) (FF : LnF σ fl) (D : LnK σ d) {x y a : Int} (hx : B31 x) (hy : B31 y) (ha : B31 a) {Q : Int32 → QR10} (hq : ∀ fi' i' K' L' W' S' E' P' H' b', fi' 9 = fi 9 → Q (eI (cookS σ x y a)) fi' i' K' L' W' S' E' P' H' b') : w_LongTrain_cook il fi i hl fl K L W S E P H d gl b (eI x) (eI y) (eI a) Q := by
  have hu := O.u
  have hwk := O.walk
  have h18 := wN_18 O a
  unfold w_LongTrain_cook
  unfold cookS at hq
  refine C_cooksWay O I HH FF D hx hy ha (fun hc i1 K1 L1 W1 S1 E1 P1 H1 => ?_) (fun hc i1 K1 L1 W1 S1 E1 P1 H1 => ?_)
  · (first | refine z1T ?_ | refine z1N ?_)
    rw [if_pos hc] at hq
    obtain ⟨⟨a1, a2⟩, b1, b2, b3⟩ := hc
    have ex : x = ((x.toNat : Nat) : Int) := by omega
    have ey : y = ((y.toNat : Nat) : Int) := by omega
    generalize hX : x.toNat = X at *
    generalize hY : y.toNat = Y at *
    subst ex ey
    unfold w_LongTrain_cooksMinutes
    refine q_ne (by (first | exact B31_s (by omega) (by omega) | exact B31_of _ | (constructor <;> omega))) (by (first | exact B31_s (by omega) (by omega) | exact B31_of _ | (constructor <;> omega))) (fun hne => ?_) (fun heq => ?_)
    · unfold w_Free_minutes
      refine R_start O I HH FF D a1 (by omega) (fun i2 K2 L2 W2 S2 E2 P2 H2 r => ?_)
      have e8 : i2 8 = eI (wN σ a) := r.sz
      rw [e8]
      (try simp only [eI_lit, eI_neg, eI_add, eI_sub, eI_mul, eF_ap, upd_eF])
      refine q_lt (by (first | exact B31_s (by omega) (by omega) | exact B31_of _ | (constructor <;> omega))) (by (first | exact B31_s (by omega) (by omega) | exact B31_of _ | (constructor <;> omega))) (fun h => by omega) (fun _ => ?_)
      refine q_lt (by (first | exact B31_s (by omega) (by omega) | exact B31_of _ | (constructor <;> omega))) (by (first | exact B31_s (by omega) (by omega) | exact B31_of _ | (constructor <;> omega))) (fun _ => ?_) (fun h => by omega)
      refine q_le (by (first | exact B31_s (by omega) (by omega) | exact B31_of _ | (constructor <;> omega))) (by (first | exact B31_s (by omega) (by omega) | exact B31_of _ | (constructor <;> omega))) (fun h => by omega) (fun _ => ?_)
      refine And.intro (eI_in (by omega) (by omega) (by omega)) ?_; (try simp (disch := omega) only [eI_cl, Int.toNat_natCast])
      have hl1 : L2 X = eI (LG σ (wK σ a X)) := r.l X (by show X < wN σ a; omega)
      rw [hl1]
      unfold j_Free_minutes_48
      refine lg_Free_minutes_55 (G := Nat) (fun g x5 fi' i' K' L' W' S' E' P' H' b' => a + g ≤ σ 0 ∧ x5 = eI (a + g) ∧ fi' 9 = fi 9 ∧ fi' 5 = eI (co σ X Y a g).1 ∧ fi' 6 = eI (co σ X Y a g).2 ∧ (∀ m, m ≤ g → ¬ (co σ X Y a m).1 = Y) ∧ ∃ q m, (m = hz σ (a + g) ∨ m = hb σ (a + g)) ∧ RowR σ (FX σ m) q m i' K' L' W' S' E' P' H') (fun g => (σ 0 - a).toNat - g) ?_ 0 ⟨by omega, by congr 1; omega, by rw [upd_n (by omega), upd_n (by omega)], by rw [upd_n (by omega), upd_s]; rfl, by rw [upd_s]; rfl, fun m hm => ?_, a, hb σ a, Or.inr (by congr 1; omega), r⟩
      · rintro kr g x5 fi' i' K' L' W' S' E' P' H' b' ⟨hg, rfl, h9, f5, f6, hnb, q, m, hm, r⟩ hstep
        have cb := co_bd O (i := X) (j := Y) (a := a) (by omega) (by omega) g
        unfold b_Free_minutes_55
        rw [I.u]
        refine q_le (by (first | exact B31_s (by omega) (by omega) | exact B31_of _ | (constructor <;> omega))) (by (first | exact B31_s (by omega) (by omega) | exact B31_of _ | (constructor <;> omega))) (fun h2 => ?_) (fun h2 => ?_)
        · have e1 := lf_eq (P := fun m => (co σ X Y a m).1 = Y) (n := (σ 0 - a).toNat + 1) (m := (σ 0 - a).toNat + 1) (Nat.le_refl _) (fun m hm => hnb m (by omega)) (fun h => absurd h (Nat.lt_irrefl _))
          rw [e1, if_neg (by omega)] at hq
          exact hq _ _ _ _ _ _ _ _ _ _ h9
        · refine R_takeW O hm r I HH D (by omega) (by omega) (fun i3 K3 L3 W3 S3 E3 P3 H3 r3 => ?_)
          refine R_measW O r3 I G (by omega) (by omega) (fun z b3 hb3 => ?_)
          rw [I.walk]
          have hmn := wN_mono O (a := a) (h := a + g) (by omega)
          have hng := hnb g (Nat.le_refl _)
          refine C_cookMin O (h := a + g) (by omega) (by omega) r3.sz hb3 r3.s r3.l f5 f6 (by omega) cb.2.2.1 cb.2.2.2 (by omega) (by omega) (fun hd fi4 h94 => ?_) (fun hd fi4 h94 f54 f64 => ?_)
          · (first | refine z1T ?_ | refine z1N ?_)
            have e1 := lf_eq (P := fun m => (co σ X Y a m).1 = Y) (n := (σ 0 - a).toNat + 1) (m := g + 1) (by omega) (fun m hm => hnb m (by omega)) (fun _ => hd)
            rw [e1, if_pos (by omega)] at hq
            (try simp only [eI_lit, eI_neg, eI_add, eI_sub, eI_mul, eF_ap, upd_eF])
            have e2 : a + g - a + 1 = ((g + 1 : Nat) : Int) := by omega
            rw [e2]
            exact hq _ _ _ _ _ _ _ _ _ _ (h94.trans h9)
          · (first | refine z0T ?_ | refine z0N ?_)
            (try simp only [eI_lit, eI_neg, eI_add, eI_sub, eI_mul, eF_ap, upd_eF])
            refine hstep (g + 1) _ _ _ _ _ _ _ _ _ _ _ (by omega) ⟨by omega, by congr 1; omega, h94.trans h9, f54, f64, fun m hm => ?_, _, hb σ (a + g), Or.inl ?_, r3⟩
            · by_cases hmg : m = g + 1
              · subst hmg; exact hd
              · exact hnb m (by omega)
            · have e2 : a + ((g + 1 : Nat) : Int) = a + g + 1 := by omega
              rw [e2, hz_next (by omega)]
      · have e0 : m = 0 := by omega
        subst e0
        show ¬ X = Y
        omega
    · have e1 := lf_eq (P := fun m => (co σ X Y a m).1 = Y) (n := (σ 0 - a).toNat + 1) (m := 0) (by omega) (fun m hm => absurd hm (Nat.not_lt_zero _)) (fun _ => by show X = Y; omega)
      rw [e1, if_pos (by omega)] at hq
      exact hq _ _ _ _ _ _ _ _ _ _ rfl
  · (first | refine z0T ?_ | refine z0N ?_)
    rw [if_neg hc] at hq
    exact hq _ _ _ _ _ _ _ _ _ _ rfl
theorem C_back {σ} (O : LOk σ) {fi i K L W S E P H b : F32} {il gl hl fl d : F32} (I : LnI σ il) (G : LnG σ gl) (HH : LnH σ hl) (FF : LnF σ fl) (D : LnK σ d) {x y a : Int} (hx : B31 x) (hy : B31 y) (ha : B31 a) {Q : Int32 → QR10} (hq : ∀ fi' i' K' L' W' S' E' P' H' b', fi' 9 = fi 9 → Q (eI (backS σ x y a)) fi' i' K' L' W' S' E' P' H' b') : w_LongTrain_back il fi i hl fl K L W S E P H d gl b (eI x) (eI y) (eI a) Q := by
  have hu := O.u
  have hwk := O.walk
  have h18 := wN_18 O a
  unfold w_LongTrain_back
  unfold backS at hq
  refine C_cooksWay O I HH FF D hx hy ha (fun hc i1 K1 L1 W1 S1 E1 P1 H1 => ?_) (fun hc i1 K1 L1 W1 S1 E1 P1 H1 => ?_)
  · (first | refine z1T ?_ | refine z1N ?_)
    rw [if_pos hc] at hq
    obtain ⟨⟨a1, a2⟩, b1, b2, b3⟩ := hc
    have ex : x = ((x.toNat : Nat) : Int) := by omega
    have ey : y = ((y.toNat : Nat) : Int) := by omega
    generalize hX : x.toNat = X at *
    generalize hY : y.toNat = Y at *
    subst ex ey
    unfold w_LongTrain_cooksMinutes
    refine q_ne (by (first | exact B31_s (by omega) (by omega) | exact B31_of _ | (constructor <;> omega))) (by (first | exact B31_s (by omega) (by omega) | exact B31_of _ | (constructor <;> omega))) (fun hne => ?_) (fun heq => ?_)
    · unfold w_Free_minutes
      refine R_start O I HH FF D a1 (by omega) (fun i2 K2 L2 W2 S2 E2 P2 H2 r => ?_)
      have e8 : i2 8 = eI (wN σ a) := r.sz
      rw [e8]
      (try simp only [eI_lit, eI_neg, eI_add, eI_sub, eI_mul, eF_ap, upd_eF])
      refine q_lt (by (first | exact B31_s (by omega) (by omega) | exact B31_of _ | (constructor <;> omega))) (by (first | exact B31_s (by omega) (by omega) | exact B31_of _ | (constructor <;> omega))) (fun h => by omega) (fun _ => ?_)
      refine q_lt (by (first | exact B31_s (by omega) (by omega) | exact B31_of _ | (constructor <;> omega))) (by (first | exact B31_s (by omega) (by omega) | exact B31_of _ | (constructor <;> omega))) (fun _ => ?_) (fun h => by omega)
      refine q_le (by (first | exact B31_s (by omega) (by omega) | exact B31_of _ | (constructor <;> omega))) (by (first | exact B31_s (by omega) (by omega) | exact B31_of _ | (constructor <;> omega))) (fun _ => ?_) (fun h => by omega)
      unfold j_Free_minutes_48
      refine lg_Free_minutes_55 (G := Nat) (fun g x5 fi' i' K' L' W' S' E' P' H' b' => a + g ≤ σ 0 ∧ x5 = eI (a + g) ∧ fi' 9 = fi 9 ∧ fi' 5 = eI (bo σ X Y a g).1 ∧ fi' 6 = eI (bo σ X Y a g).2 ∧ (∀ m, m ≤ g → ¬ ((bo σ X Y a m).1 = X ∧ (bo σ X Y a m).2 = 0)) ∧ ∃ q m, (m = hz σ (a + g) ∨ m = hb σ (a + g)) ∧ RowR σ (FX σ m) q m i' K' L' W' S' E' P' H') (fun g => (σ 0 - a).toNat - g) ?_ 0 ⟨by omega, by congr 1; omega, by rw [upd_n (by omega), upd_n (by omega)], by rw [upd_n (by omega), upd_s]; rfl, by rw [upd_s]; rfl, fun m hm => ?_, a, hb σ a, Or.inr (by congr 1; omega), r⟩
      · rintro kr g x5 fi' i' K' L' W' S' E' P' H' b' ⟨hg, rfl, h9, f5, f6, hnb, q, m, hm, r⟩ hstep
        have cb := bo_bd O (i := X) (j := Y) (a := a) (by omega) (by omega) g
        unfold b_Free_minutes_55
        rw [I.u]
        refine q_le (by (first | exact B31_s (by omega) (by omega) | exact B31_of _ | (constructor <;> omega))) (by (first | exact B31_s (by omega) (by omega) | exact B31_of _ | (constructor <;> omega))) (fun h2 => ?_) (fun h2 => ?_)
        · have e1 := lf_eq (P := fun m => (bo σ X Y a m).1 = X ∧ (bo σ X Y a m).2 = 0) (n := (σ 0 - a).toNat + 1) (m := (σ 0 - a).toNat + 1) (Nat.le_refl _) (fun m hm => hnb m (by omega)) (fun h => absurd h (Nat.lt_irrefl _))
          rw [e1, if_neg (by omega)] at hq
          exact hq _ _ _ _ _ _ _ _ _ _ h9
        · refine R_takeW O hm r I HH D (by omega) (by omega) (fun i3 K3 L3 W3 S3 E3 P3 H3 r3 => ?_)
          refine R_measW O r3 I G (by omega) (by omega) (fun z b3 hb3 => ?_)
          rw [I.walk]
          have hmn := wN_mono O (a := a) (h := a + g) (by omega)
          have hng := hnb g (Nat.le_refl _)
          refine C_backMin O (h := a + g) (by omega) r3.sz hb3 r3.s r3.l f5 f6 cb.1 (by omega) cb.2.2.1 cb.2.2.2 (by omega) (by omega) (fun hd fi4 h94 => ?_) (fun hd fi4 h94 f54 f64 => ?_)
          · (first | refine z1T ?_ | refine z1N ?_)
            have e1 := lf_eq (P := fun m => (bo σ X Y a m).1 = X ∧ (bo σ X Y a m).2 = 0) (n := (σ 0 - a).toNat + 1) (m := g + 1) (by omega) (fun m hm => hnb m (by omega)) (fun _ => hd)
            rw [e1, if_pos (by omega)] at hq
            (try simp only [eI_lit, eI_neg, eI_add, eI_sub, eI_mul, eF_ap, upd_eF])
            have e2 : a + g - a + 1 = ((g + 1 : Nat) : Int) := by omega
            rw [e2]
            exact hq _ _ _ _ _ _ _ _ _ _ (h94.trans h9)
          · (first | refine z0T ?_ | refine z0N ?_)
            (try simp only [eI_lit, eI_neg, eI_add, eI_sub, eI_mul, eF_ap, upd_eF])
            refine hstep (g + 1) _ _ _ _ _ _ _ _ _ _ _ (by omega) ⟨by omega, by congr 1; omega, h94.trans h9, f54, f64, fun m hm => ?_, _, hb σ (a + g), Or.inl ?_, r3⟩
            · by_cases hmg : m = g + 1
              · subst hmg; exact hd
              · exact hnb m (by omega)
            · have e2 : a + ((g + 1 : Nat) : Int) = a + g + 1 := by omega
              rw [e2, hz_next (by omega)]
      · have e0 : m = 0 := by omega
        subst e0
        show ¬ (Y = X ∧ _)
        omega
    · have e1 := lf_eq (P := fun m => (bo σ X Y a m).1 = X ∧ (bo σ X Y a m).2 = 0) (n := (σ 0 - a).toNat + 1) (m := 0) (by omega) (fun m hm => absurd hm (Nat.not_lt_zero _)) (fun _ => ⟨by show Y = X; omega, rfl⟩)
      rw [e1, if_pos (by omega)] at hq
      exact hq _ _ _ _ _ _ _ _ _ _ rfl
  · (first | refine z0T ?_ | refine z0N ?_)
    rw [if_neg hc] at hq
    exact hq _ _ _ _ _ _ _ _ _ _ rfl
