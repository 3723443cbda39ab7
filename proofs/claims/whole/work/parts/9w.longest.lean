/-! longest of the class (written by mklongest.py) -/
theorem NI0 {σ : Nat → Int} (O : LOk σ) : NI σ ((σ 0).toNat - 1) 0 (FX σ 0) 0 := by
  have hfc := O.fc
  have hk : KOk σ (FX σ 0).k (FX σ 0).n := KOk.fr O (by have := O.hc; omega)
  refine ⟨by omega, Nat.le_refl _, Nat.zero_le _, rfl, hk, fun j hj => rfl, fun i hi => ?_, fun i hi => ?_⟩
  · show (0 : Int) ≤ 0 ∧ (0 : Int) ≤ 70000 * ((0 : Nat) : Int)
    omega
  · have h1 := hk i hi
    exact (O.kd _ h1.1 h1.2).2.2
theorem C_longest {σ : Nat → Int} (O : LOk σ) {i il hl gs gl r0i fl r0K r0L r0W r0S r0E r0P r0H d ia aK aL aW aS aE aP aH sn ab r0b pl bp r1i r1K r1L r1W r1S r1E r1P r1H r1b r2i r2K r2L r2W r2S r2E r2P r2H r2b r3i r3K r3L r3W r3S r3E r3P r3H r3b r4i r4K r4L r4W r4S r4E r4P r4H r4b : F32} (I : LnI σ il) (G : LnG σ gl) (HH : LnH σ hl) (FF : LnF σ fl) (D : LnK σ d) (h0 : gs 0 = 0) {Q : Int32 → F32 → F32 → F32 → F32 → F32 → F32 → F32 → F32 → F32 → F32 → F32 → F32 → F32 → F32 → F32 → F32 → F32 → F32 → F32 → F32 → F32 → F32 → F32 → F32 → F32 → F32 → F32 → F32 → F32 → F32 → F32 → F32 → F32 → F32 → F32 → F32 → F32 → F32 → F32 → F32 → F32 → F32 → F32 → F32 → F32 → F32 → F32 → F32 → F32 → F32 → F32 → F32 → F32 → F32 → F32 → F32 → F32 → F32 → F32 → Prop} (hq : ∀ i' gs' r0i' r0K' r0L' r0W' r0S' r0E' r0P' r0H' ia' aK' aL' aW' aS' aE' aP' aH' sn' ab' r0b' pl' bp' r1i' r1K' r1L' r1W' r1S' r1E' r1P' r1H' r1b' r2i' r2K' r2L' r2W' r2S' r2E' r2P' r2H' r2b' r3i' r3K' r3L' r3W' r3S' r3E' r3P' r3H' r3b' r4i' r4K' r4L' r4W' r4S' r4E' r4P' r4H' r4b', SA (lngS σ) (rm σ 0) i' bp' → gs' 0 = 0 → Q (eI (lngS σ).1) i' gs' r0i' r0K' r0L' r0W' r0S' r0E' r0P' r0H' ia' aK' aL' aW' aS' aE' aP' aH' sn' ab' r0b' pl' bp' r1i' r1K' r1L' r1W' r1S' r1E' r1P' r1H' r1b' r2i' r2K' r2L' r2W' r2S' r2E' r2P' r2H' r2b' r3i' r3K' r3L' r3W' r3S' r3E' r3P' r3H' r3b' r4i' r4K' r4L' r4W' r4S' r4E' r4P' r4H' r4b') : w_LongTrain_longest i il hl gs gl r0i fl r0K r0L r0W r0S r0E r0P r0H d ia aK aL aW aS aE aP aH sn ab r0b pl bp r1i r1K r1L r1W r1S r1E r1P r1H r1b r2i r2K r2L r2W r2S r2E r2P r2H r2b r3i r3K r3L r3W r3S r3E r3P r3H r3b r4i r4K r4L r4W r4S r4E r4P r4H r4b Q := by
  have hU := O.u
  have hhc := O.hc
  have hkc := O.kc
  have hb0 := hb_le O (0 : Int)
  unfold w_LongTrain_longest w_Lives_findPlaces
  refine lg_Lives_findPlaces_7 (G := Nat) (fun mu x i' => ∃ m : Nat, mu + m = (σ 1).toNat ∧ x = eI ((m : Nat) : Int) ∧ i' 5 = eI ((cn σ (hb σ 0) (m - hb σ 0) : Nat) : Int)) (fun mu => mu) ?_ ((σ 1).toNat) ⟨0, by omega, rfl, by rw [upd_s, Nat.zero_sub, cn]; rfl⟩
  rintro kr mu x i1 ⟨m, hmu, rfl, h5⟩ hst
  unfold b_Lives_findPlaces_7
  rw [I.hc]
  refine q_le (by (first | exact B31_s (by omega) (by omega) | exact B31_of _ | (constructor <;> omega))) (by (first | exact B31_s (by omega) (by omega) | exact B31_of _ | (constructor <;> omega))) (fun hend => ?_) (fun hmore => ?_)
  · have em : m = (σ 1).toNat := by omega
    subst em
    have erm : rm σ 0 = cn σ (hb σ 0) ((σ 1).toNat - hb σ 0) := rfl
    rw [← erm] at h5
    have hrm : rm σ 0 ≤ 10 := by
      have := cn_le (σ := σ) (hb σ 0) ((σ 1).toNat - hb σ 0)
      rw [erm]; omega
    refine lg_Lives_findPlaces_50 (G := Nat) (fun mu x gs' => ∃ m : Nat, mu + m = (σ 0).toNat ∧ x = eI ((m : Nat) : Int) ∧ ∀ u, u ≤ m → gs' u = eI (sm (fun v => σ (11 + v)) u)) (fun mu => mu) ?_ ((σ 0).toNat) ⟨0, by omega, rfl, fun u hu => ?_⟩
    · rintro kr2 mu2 x2 gs1 ⟨m2, hmu2, rfl, hgs⟩ hst2
      unfold b_Lives_findPlaces_50
      rw [I.u]
      refine q_le (by (first | exact B31_s (by omega) (by omega) | exact B31_of _ | (constructor <;> omega))) (by (first | exact B31_s (by omega) (by omega) | exact B31_of _ | (constructor <;> omega))) (fun hend2 => ?_) (fun hmore2 => ?_)
      · have GS : GSm σ gs1 := fun u hu => hgs u (by omega)
        refine R_begin0 O I HH FF D (fun ri rK rL rW rS rE rP rH r => ?_)
        refine C_search_0 (f := (σ 0).toNat - 1) (g := 0) (n := 0) (X := FX σ 0) (pc := fun _ => 0) (A := (-1, fun _ => 0)) (mo := (rm σ 0 : Int)) O (NI0 O) rfl ⟨by show (-1 : Int) ≤ -1; omega, by show (-1 : Int) ≤ 400; omega⟩ (by omega) (by omega) r I G HH D GS ?_ (fun q hq => absurd hq (Nat.not_lt_zero _)) (fun i' r0i' ia' aK' aL' aW' aS' r0E' aE' aP' aH' sn' ab' r0b' pl' bp' r1i' r1K' r1L' r1W' r1S' r1E' r1P' r1H' r1b' r2i' r2K' r2L' r2W' r2S' r2E' r2P' r2H' r2b' r3i' r3K' r3L' r3W' r3S' r3E' r3P' r3H' r3b' r4i' r4K' r4L' r4W' r4S' r4E' r4P' r4H' r4b' V _ => ?_)
        · refine ⟨by rw [upd_n (by omega), upd_n (by omega), upd_s]; rfl, fun h => absurd h (by show ¬ (0 : Int) ≤ -1; omega), by rw [upd_n (by omega), upd_n (by omega), upd_n (by omega)]; exact h5, ⟨-1, by omega, upd_s⟩, fun q h1 _ => ?_⟩
          have h1' : (q : Int) < -1 := h1
          omega
        · have e4 : i' 4 = eI (lngS σ).1 := V.b
          rw [e4]
          refine hq i' _ r0i' _ _ _ _ r0E' _ _ ia' aK' aL' aW' aS' aE' aP' aH' sn' ab' r0b' pl' bp' r1i' r1K' r1L' r1W' r1S' r1E' r1P' r1H' r1b' r2i' r2K' r2L' r2W' r2S' r2E' r2P' r2H' r2b' r3i' r3K' r3L' r3W' r3S' r3E' r3P' r3H' r3b' r4i' r4K' r4L' r4W' r4S' r4E' r4P' r4H' r4b' V ?_
          exact GS 0 (by omega)
      · refine And.intro (eI_in (by omega) (by omega) (by omega)) ?_
        refine L_gradeOf I G (by omega) (by omega) (by omega) (by omega) ?_
        have eg : GC σ (m2 : Int) = σ (11 + m2) := by
          unfold GC
          rw [if_neg (by omega)]; congr 1
        have e1 : eI ((m2 : Nat) : Int) + 1 = eI ((m2 + 1 : Nat) : Int) := by (try simp only [eI_lit, eI_neg, eI_add, eI_sub, eI_mul, eF_ap, upd_eF]); congr 1
        rw [eg, e1]
        refine And.intro (eI_in (by omega) (by omega) (by omega)) ?_; (try simp (disch := omega) only [eI_cl, Int.toNat_natCast])
        rw [hgs m2 (Nat.le_refl _)]
        refine hst2 (mu2 - 1) _ _ (by omega) ⟨m2 + 1, by omega, rfl, fun u hu => ?_⟩
        by_cases e : u = m2 + 1
        · subst e; rw [upd_s, sm]; (try simp only [eI_lit, eI_neg, eI_add, eI_sub, eI_mul, eF_ap, upd_eF])
        · rw [upd_n e]; exact hgs u (by omega)
    · have e : u = 0 := by omega
      subst e; exact h0
  · have hq1 : (m : Int) < σ 1 := by omega
    have hsp := hb_sp O (0 : Int) (k := m) hq1
    have hat := O.at_ m hq1
    have hadb := O.ad m hq1
    have e1 : eI ((m : Nat) : Int) + 1 = eI ((m + 1 : Nat) : Int) := by (try simp only [eI_lit, eI_neg, eI_add, eI_sub, eI_mul, eF_ap, upd_eF]); congr 1
    rw [e1]
    refine L_haltAt HH hq1 (by omega) ?_
    refine q_le0 (by (first | exact B31_s (by omega) (by omega) | exact B31_of _ | (constructor <;> omega))) (fun hz => ?_) (fun hp => ?_)
    · refine hst (mu - 1) _ _ (by omega) ⟨m + 1, by omega, rfl, ?_⟩
      have e2 : m + 1 - hb σ 0 = m - hb σ 0 := by omega
      rw [e2]; exact h5
    · refine L_haltAdds HH hq1 (by omega) ?_
      have e2 : m + 1 - hb σ 0 = (m - hb σ 0) + 1 := by omega
      have e3 : hb σ 0 + (m - hb σ 0) = m := by omega
      have ecn := cn_r (σ := σ) (hb σ 0) (m - hb σ 0)
      rw [e3] at ecn
      refine q_eq (a := AD σ (m : Int)) (b := -1) (by (first | exact B31_s (by omega) (by omega) | exact B31_of _ | (constructor <;> omega))) (by (first | exact B31_s (by omega) (by omega) | exact B31_of _ | (constructor <;> omega))) (fun hno => ?_) (fun hadd => ?_)
      · refine hst (mu - 1) _ _ (by omega) ⟨m + 1, by omega, rfl, ?_⟩
        rw [e2, ecn, if_neg (by omega)]; exact h5
      · refine hst (mu - 1) _ _ (by omega) ⟨m + 1, by omega, rfl, ?_⟩
        rw [e2, ecn, if_pos (by omega), upd_s, h5]
        (try simp only [eI_lit, eI_neg, eI_add, eI_sub, eI_mul, eF_ap, upd_eF]); congr 1
