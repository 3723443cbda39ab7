/-! longest of the class: may a row of places be better -/
def NI (σ : Nat → Int) (f g : Nat) (X : RW) (n : Nat) : Prop :=
  (g + f = (σ 0).toNat - 1) ∧
  (n ≤ g) ∧
  (n ≤ hb σ g) ∧
  (X.n = (σ 10).toNat + n) ∧
  (KOk σ X.k X.n) ∧
  (∀ j, j < X.n → X.p j = 0) ∧
  (∀ i, i < X.n → 0 ≤ X.w i ∧ X.w i ≤ 70000 * (g : Int)) ∧
  (∀ i, i < X.n → 1 ≤ X.s i ∧ X.s i ≤ 999)
theorem NI.gf {σ : Nat → Int} {f g : Nat} {X : RW} {n : Nat} (h : NI σ f g X n) : g + f = (σ 0).toNat - 1 := h.1
theorem NI.ng {σ : Nat → Int} {f g : Nat} {X : RW} {n : Nat} (h : NI σ f g X n) : n ≤ g := h.2.1
theorem NI.nb {σ : Nat → Int} {f g : Nat} {X : RW} {n : Nat} (h : NI σ f g X n) : n ≤ hb σ g := h.2.2.1
theorem NI.nx {σ : Nat → Int} {f g : Nat} {X : RW} {n : Nat} (h : NI σ f g X n) : X.n = (σ 10).toNat + n := h.2.2.2.1
theorem NI.ok {σ : Nat → Int} {f g : Nat} {X : RW} {n : Nat} (h : NI σ f g X n) : KOk σ X.k X.n := h.2.2.2.2.1
theorem NI.p0 {σ : Nat → Int} {f g : Nat} {X : RW} {n : Nat} (h : NI σ f g X n) : ∀ j, j < X.n → X.p j = 0 := h.2.2.2.2.2.1
theorem NI.wb {σ : Nat → Int} {f g : Nat} {X : RW} {n : Nat} (h : NI σ f g X n) : ∀ i, i < X.n → 0 ≤ X.w i ∧ X.w i ≤ 70000 * (g : Int) := h.2.2.2.2.2.2.1
theorem NI.sb {σ : Nat → Int} {f g : Nat} {X : RW} {n : Nat} (h : NI σ f g X n) : ∀ i, i < X.n → 1 ≤ X.s i ∧ X.s i ≤ 999 := h.2.2.2.2.2.2.2
theorem NI.n18 {σ : Nat → Int} (O : LOk σ) {f g n : Nat} {X : RW} (N : NI σ f g X n) : X.n ≤ 8 + hb σ g ∧ X.n ≤ 18 := by
  have h1 := N.nb
  have h2 := N.nx
  have h3 := hb_le O (g : Int)
  have h4 := O.hc
  have h5 := O.fc
  omega
theorem JJ0 {σ : Nat → Int} (O : LOk σ) {f g n : Nat} {X : RW} (N : NI σ f g X n) : JJ σ (hb σ g) X (g : Int) g 0 X := by
  refine ⟨rfl, rfl, fun _ _ => rfl, fun _ _ => rfl, fun i hi => ?_, N.wb, N.ok, N.sb, (N.n18 O).1⟩
  have e : ∀ n', sm (fun j => cDd σ (apX σ (hb σ g) X 0).k j (snc σ (hb σ g) X (g : Int) 0 j) (g : Int)) n' = 0 := fun n' => sm_zr (fun j _ => by rw [snc, cDd_0])
  rw [e, e, apX]
  show X.w i + (0 - 0) ≤ X.w i
  omega
theorem snc_c {σ : Nat → Int} {a : Nat} {X : RW} {g0 B : Int} (h0 : g0 ≤ B) : ∀ m : Nat, (∀ k : Nat, k < m → AT σ ((a + k : Nat) : Int) ≤ B) → ∀ j, snc σ a X g0 m j ≤ B
  | 0, _, j => by rw [snc]; exact h0
  | m + 1, h, j => by
    have ih := snc_c (X := X) h0 m (fun k hk => h k (by omega))
    rw [snc]
    split
    · unfold updI
      split
      · exact h m (by omega)
      · exact ih j
    · exact ih j
theorem snc_g {σ : Nat → Int} {a : Nat} {X : RW} {g0 B : Int} (h0 : B ≤ g0) : ∀ m : Nat, (∀ k : Nat, k < m → B ≤ AT σ ((a + k : Nat) : Int)) → ∀ j, B ≤ snc σ a X g0 m j
  | 0, _, j => by rw [snc]; exact h0
  | m + 1, h, j => by
    have ih := snc_g (X := X) h0 m (fun k hk => h k (by omega))
    rw [snc]
    split
    · unfold updI
      split
      · exact h m (by omega)
      · exact ih j
    · exact ih j
theorem snc_d {σ : Nat → Int} {a : Nat} {X : RW} {g0 B : Int} {m : Nat} : ∀ d : Nat, (∀ k : Nat, m ≤ k → k < m + d → B ≤ AT σ ((a + k : Nat) : Int)) → ∀ j, (apX σ a X m).n ≤ j → j < (apX σ a X (m + d)).n → B ≤ snc σ a X g0 (m + d) j
  | 0, _, j, h1, h2 => by rw [Nat.add_zero] at h2; omega
  | d + 1, h, j, h1, h2 => by
    have ih := snc_d (X := X) (g0 := g0) d (fun k hk hk2 => h k hk (by omega)) j h1
    have e : m + (d + 1) = m + d + 1 := by omega
    rw [e] at h2 ⊢
    rw [snc]
    rw [apX] at h2
    by_cases hc : 0 ≤ AD σ ((a + (m + d) : Nat) : Int)
    · rw [if_pos hc] at h2 ⊢
      have h2' : j < (apX σ a X (m + d)).n + 1 := h2
      unfold updI
      by_cases ej : j = (apX σ a X (m + d)).n
      · rw [if_pos ej]; exact h (m + d) (by omega) (by omega)
      · rw [if_neg ej]; exact ih (by omega)
    · rw [if_neg hc] at h2 ⊢
      exact ih h2
theorem apX_ok {σ : Nat → Int} (O : LOk σ) {a g : Nat} {X : RW} (hk : KOk σ X.k X.n) (hp : ∀ j, j < X.n → X.p j = 0) (hw : ∀ i, i < X.n → 0 ≤ X.w i ∧ X.w i ≤ 70000 * (g : Int)) (hs : ∀ i, i < X.n → 1 ≤ X.s i ∧ X.s i ≤ 999) : ∀ m : Nat, ((a + m : Nat) : Int) ≤ σ 1 → KOk σ (apX σ a X m).k (apX σ a X m).n ∧ (∀ j, j < (apX σ a X m).n → (apX σ a X m).p j = 0) ∧ (∀ i, i < (apX σ a X m).n → 0 ≤ (apX σ a X m).w i ∧ (apX σ a X m).w i ≤ 70000 * (g : Int)) ∧ (∀ i, i < (apX σ a X m).n → 1 ≤ (apX σ a X m).s i ∧ (apX σ a X m).s i ≤ 999)
  | 0, _ => ⟨hk, hp, hw, hs⟩
  | m + 1, hm => by
    obtain ⟨i1, i2, i3, i4⟩ := apX_ok O (a := a) hk hp hw hs m (by omega)
    rw [apX]
    by_cases hc : 0 ≤ AD σ ((a + m : Nat) : Int)
    · rw [if_pos hc]
      have hb := (O.ad (a + m) (by omega)).2
      generalize apX σ a X m = Y at *
      refine ⟨KOk.ins i1 (Nat.le_refl _) hc hb, ins_p (Nat.le_refl _) i2, fun i hi => ?_, fun i hi => ?_⟩
      · have hi' : i < Y.n + 1 := hi
        show 0 ≤ insF Y.w Y.n 0 i ∧ insF Y.w Y.n 0 i ≤ _
        by_cases e : i = Y.n
        · subst e; rw [insF_eq]; omega
        · rw [insF_lt (by omega)]; exact i3 i (by omega)
      · have hi' : i < Y.n + 1 := hi
        show 1 ≤ insF Y.s Y.n _ i ∧ insF Y.s Y.n _ i ≤ 999
        by_cases e : i = Y.n
        · subst e; rw [insF_eq]; exact (O.kd _ hc hb).2.2
        · rw [insF_lt (by omega)]; exact i4 i (by omega)
    · rw [if_neg hc]; exact ⟨i1, i2, i3, i4⟩
theorem cn_mono {σ : Nat → Int} {a m m' : Nat} (h : m ≤ m') : cn σ a m ≤ cn σ a m' := by
  have e : m' = m + (m' - m) := by omega
  rw [e, cn_sp]; omega
/-- at a halt to which it must come -/
theorem LB_at {σ : Nat → Int} (O : LOk σ) {f g n : Nat} {X : RW} (N : NI σ f g X n) {b : Int} {m dh : Nat} (hm : hb σ ((dh : Int) - 1) = hb σ g + m) (hd : g < dh) (hdu : (dh : Int) < σ 0) (hc : (n : Int) + cn σ (hb σ g) m ≤ b) (h4 : n < 4 → cn σ (hb σ g) m = 0) (hbad : ∀ Y, JJ σ (hb σ g) X (g : Int) (dh - 1) m Y → ptL σ Y (((dh - 1 : Nat) : Int) + 1) < Y.n) : LB σ b f g X n := by
  have hU := O.u
  have hgf := N.gf
  obtain ⟨m', hm', J⟩ := JJ.ride O (dh - 1 - g) g 0 X (JJ0 O N) (by omega)
  have eg : g + (dh - 1 - g) = dh - 1 := by omega
  rw [eg] at J
  have ec : ((dh - 1 : Nat) : Int) = (dh : Int) - 1 := by omega
  have em : m' = m := by
    have := J.m
    rw [ec, hm] at this; omega
  subst em
  have hp := hbad _ J
  have ha := acN_cn O (dh - 1 - g) g
  rw [eg, ec, hm] at ha
  have e2 : hb σ g + m' - hb σ g = m' := by omega
  rw [e2] at ha
  refine LB_ride (dh - 1 - g) f g X n (by omega) ?_ (by rw [ha.2]; exact hc) (fun h => by rw [ha.2]; exact h4 h)
  rw [eg]; exact hp
abbrev QMb := Int32 → F32 → F32 → F32 → F32 → F32 → F32 → F32 → F32 → F32 → F32 → Prop
theorem hb_at {σ : Nat → Int} (O : LOk σ) {q : Nat} (hq : (q : Int) < σ 1) : hb σ (AT σ (q : Int) - 1) = q := by
  refine hb_eq O (by omega) (fun k hk => ?_) (fun k hk hk2 => ?_)
  · have := O.asc k q hk hq; omega
  · by_cases e : k = q
    · subst e; omega
    · have := O.asc q k (by omega) hk2; omega
theorem C_mayBeBetter {σ : Nat → Int} (O : LOk σ) {f g n : Nat} {X : RW} (N : NI σ f g X n) {b : Int} (hb1 : -1 ≤ b ∧ b ≤ 400) (hnb : (n : Int) ≤ b) {lev : Nat} (hlev : lev = min n 4) {i ip il ia pk ak pl al pw aw ps_ as_ pe ae pp ap ph ah sn hl gs gl bb d : F32} (r : RowR σ X (g : Int) (hb σ g) ip pk pl pw ps_ pe pp ph) (I : LnI σ il) (G : LnG σ gl) (HH : LnH σ hl) (D : LnK σ d) (GS : GSm σ gs) (h4 : i 4 = eI b) {dh : Int} (hdh : -1 ≤ dh ∧ dh ≤ 400) (h8 : i 8 = eI dh) {Q : QMb} (h0 : LB σ b f g X n → ∀ ia' k' l' w' s' e' p' h' sn' bb', Q 0 ia' k' l' w' s' e' p' h' sn' bb') (h1 : ∀ ia' k' l' w' s' e' p' h' sn' bb', Q 1 ia' k' l' w' s' e' p' h' sn' bb') : w_Lives_mayBeBetter i ip il ia pk ak pl al pw aw ps_ as_ pe ae pp ap ph ah sn hl gs gl bb d (eI lev) (eI n) Q := by
  have hU := O.u
  have hhc := O.hc
  have hkc := O.kc
  have hbl := hb_le O (g : Int)
  have hn18 := N.n18 O
  have hgf := N.gf
  unfold w_Lives_mayBeBetter
  refine R_copy r (by omega) (fun ia1 k1 l1 w1 s1 e1 p1 hh1 r1 => ?_)
  refine lg_Lives_mayBeBetter_11 (G := Nat) (fun q x sn' => q ≤ X.n ∧ x = eI ((q : Nat) : Int) ∧ ∀ j, j < q → sn' j = eI (g : Int)) (fun q => X.n - q) ?_ 0 ⟨by omega, rfl, fun j hj => absurd hj (Nat.not_lt_zero _)⟩
  rintro kr q x sn' ⟨hq, rfl, hsn⟩ hst
  unfold b_Lives_mayBeBetter_11
  rw [r.sz, r.hd]
  refine q_le (by (first | exact B31_s (by omega) (by omega) | exact B31_of _ | (constructor <;> omega))) (by (first | exact B31_s (by omega) (by omega) | exact B31_of _ | (constructor <;> omega))) (fun hle => ?_) (fun hlt => ?_)
  · have eq : q = X.n := by omega
    subst eq
    rw [h4, r.nx]
    have e0 : eI b + 1 - eI (n : Int) = eI (b + 1 - n - ((cn σ (hb σ g) 0 : Nat) : Int)) := by rw [cn]; (try simp only [eI_lit, eI_neg, eI_add, eI_sub, eI_mul, eF_ap, upd_eF]); congr 1; omega
    rw [e0]
    refine lg_Lives_mayBeBetter_54 (G := Nat) (fun mu x5 x6 ia' k' l' w' s' e' p' h' sn' => ∃ m : Nat, mu + hb σ g + m = (σ 1).toNat ∧ x5 = eI (b + 1 - n - ((cn σ (hb σ g) m : Nat) : Int)) ∧ x6 = eI ((hb σ g + m : Nat) : Int) ∧ (n : Int) + cn σ (hb σ g) m ≤ b ∧ (n < 4 → cn σ (hb σ g) m = 0) ∧ RowR σ (apX σ (hb σ g) X m) (g : Int) (hb σ g) ia' k' l' w' s' e' p' h' ∧ ∀ j, j < (apX σ (hb σ g) X m).n → sn' j = eI (snc σ (hb σ g) X (g : Int) m j)) (fun mu => mu) ?_ ((σ 1).toNat - hb σ g) ⟨0, by omega, rfl, by rw [Nat.add_zero], by rw [cn]; omega, fun _ => by rw [cn], r1, fun j hj => by rw [snc]; exact hsn j hj⟩
    clear hst hsn r1 e0
    rintro kr2 mu x5 x6 ia2 k2 l2 w2 s2 e2 p2 hh2 sn2 ⟨m, hmu, rfl, rfl, hcb, hc4, r2, hs2⟩ hst2
    have hcl := cn_le (σ := σ) (hb σ g) m
    have hYn := apX_n (σ := σ) (a := hb σ g) (X := X) m
    obtain ⟨y1, y2, y3, y4⟩ := apX_ok O (a := hb σ g) (g := g) N.ok N.p0 N.wb N.sb m (by omega)
    unfold b_Lives_mayBeBetter_54
    rw [I.hc]
    refine q_le (by (first | exact B31_s (by omega) (by omega) | exact B31_of _ | (constructor <;> omega))) (by (first | exact B31_s (by omega) (by omega) | exact B31_of _ | (constructor <;> omega))) (fun hend => ?_) (fun hmore => ?_)
    · refine h0 (LB_most O f g X n ?_) _ _ _ _ _ _ _ _ _ _
      have e1 : rm σ g = cn σ (hb σ g) m := by unfold rm; congr 1; omega
      rw [e1]; exact hcb
    · have hq1 : ((hb σ g + m : Nat) : Int) < σ 1 := by omega
      have hadb := O.ad (hb σ g + m) hq1
      have hatb := O.at_ (hb σ g + m) hq1
      have hgt : (g : Int) < AT σ ((hb σ g + m : Nat) : Int) := by
        have := hb_sp O (g : Int) (k := hb σ g + m) hq1
        omega
      have hH := hb_at O hq1
      have hhn : (apX σ (hb σ g) X m).n ≤ 18 := by
        have := N.nx
        have := N.nb
        have := O.fc
        omega
      have scb : ∀ j, (g : Int) ≤ snc σ (hb σ g) X (g : Int) m j ∧ snc σ (hb σ g) X (g : Int) m j ≤ AT σ ((hb σ g + m : Nat) : Int) - 1 := fun j => ⟨snc_g (Int.le_refl _) m (fun k hk => by
          have := hb_sp O (g : Int) (k := hb σ g + k) (by omega)
          omega) j, snc_c (by omega) m (fun k hk => by
          have := O.asc (hb σ g + k) (hb σ g + m) (by omega) hq1
          omega) j⟩
      refine L_haltAdds HH hq1 (by omega) ?_
      have test : 0 ≤ AD σ ((hb σ g + m : Nat) : Int) → j_Lives_mayBeBetter_105 i il ia2 k2 l2 w2 s2 e2 p2 hh2 sn2 hl gs gl bb (eI ((hb σ g + m : Nat) : Int)) Q := fun hadd => by
        generalize hHH : AT σ ((hb σ g + m : Nat) : Int) = H at *
        obtain ⟨Hn, rfl⟩ : ∃ Hn : Nat, H = (Hn : Int) := ⟨H.toNat, by omega⟩
        unfold j_Lives_mayBeBetter_105
        refine L_haltAt HH hq1 (by omega) ?_
        rw [hHH]
        refine C_isWornBy O r2 I GS y1 hhn hs2 (H := (Hn : Int)) (by omega) (fun j hj => ⟨by have := (scb j).1; omega, (scb j).2⟩) (fun j hj => by have := y3 j hj; omega) y4 (fun hw => ?_) ?_
        · (first | refine z1T ?_ | refine z1N ?_)
          refine h0 ?_ _ _ _ _ _ _ _ _ _ _
          obtain ⟨q, hq, hlt⟩ := hw
          refine LB_at O N (dh := Hn) (m := m) hH (by omega) (by omega) hcb hc4 (fun Y J => ?_)
          refine J.worn O (by omega) hq ?_
          have ec : ((Hn - 1 : Nat) : Int) = (Hn : Int) - 1 := by omega
          rw [ec]; exact hlt
        · (first | refine z0T ?_ | refine z0N ?_)
          refine L_haltAt HH hq1 (by omega) ?_
          rw [hHH]
          refine C_isOverborneBy O r2 I G y1 hhn y2 hs2 (fun j hj => by have := scb j; omega) y4 (by omega) hdh h8 (H := (Hn : Int)) (by omega) (fun d1 d2 hex ia3 b3 => ?_) (fun ia3 b3 => by (first | refine z0T ?_ | refine z0N ?_); exact h1 _ _ _ _ _ _ _ _ _ _)
          (first | refine z1T ?_ | refine z1N ?_)
          refine h0 ?_ _ _ _ _ _ _ _ _ _ _
          obtain ⟨q, hqn, hall, hq0, jj, hjj, hlt⟩ := hex
          obtain ⟨dn, rfl⟩ : ∃ dn : Nat, dh = (dn : Int) := ⟨dh.toNat, by omega⟩
          have hmo1 := hb_mono O (a := (g : Int)) (b := (dn : Int) - 1) (by omega)
          have hmo2 := hb_mono O (a := (dn : Int) - 1) (b := (Hn : Int) - 1) (by omega)
          obtain ⟨m', hm'⟩ : ∃ m', hb σ ((dn : Int) - 1) = hb σ g + m' := ⟨hb σ ((dn : Int) - 1) - hb σ g, by omega⟩
          obtain ⟨dd, rfl⟩ : ∃ dd, m = m' + dd := ⟨m - m', by omega⟩
          have hlow : ∀ k : Nat, k < m' → AT σ ((hb σ g + k : Nat) : Int) ≤ (dn : Int) - 1 := fun k hk => (hb_sp O ((dn : Int) - 1) (k := hb σ g + k) (by omega)).mp (by omega)
          have hhigh : ∀ k : Nat, m' ≤ k → k < m' + dd → (dn : Int) ≤ AT σ ((hb σ g + k : Nat) : Int) := fun k hk hk2 => by
            have := hb_sp O ((dn : Int) - 1) (k := hb σ g + k) (by omega)
            omega
          have hmn := apX_n (σ := σ) (a := hb σ g) (X := X) m'
          have hcm := cn_mono (σ := σ) (a := hb σ g) (m := m') (m' := m' + dd) (by omega)
          have eq : q = (apX σ (hb σ g) X m').n := by
            rcases Nat.lt_trichotomy q (apX σ (hb σ g) X m').n with hlt2 | he | hgt2
            · have e5 := (apX_q (σ := σ) (a := hb σ g) (X := X) (j := q) (m := m') dd hlt2).2.2.2.2 (g : Int)
              have e6 := snc_c (σ := σ) (a := hb σ g) (X := X) (g0 := (g : Int)) (B := (dn : Int) - 1) (by omega) m' hlow q
              have e7 := hall q (Nat.le_refl _) (by omega)
              omega
            · exact he
            · have e6 := snc_d (σ := σ) (a := hb σ g) (X := X) (g0 := (g : Int)) (B := (dn : Int)) dd hhigh (q - 1) (by omega) (by omega)
              have e7 := hq0 (by omega)
              omega
          subst eq
          have key : ∀ j, j < (apX σ (hb σ g) X m').n → (apX σ (hb σ g) X (m' + dd)).k j = (apX σ (hb σ g) X m').k j := fun j hj => (apX_q dd hj).2.1
          have e8 := (apX_q (σ := σ) (a := hb σ g) (X := X) (j := jj) (m := m') dd hjj).2.2.1
          rw [e8, br_k key (by omega)] at hlt
          refine LB_at O N (dh := dn) (m := m') hm' (by omega) (by omega) (by omega) (fun h => by have := hc4 h; omega) (fun Y J => ?_)
          refine J.over O (by omega) hjj ?_
          have ec : ((dn - 1 : Nat) : Int) + 1 = (dn : Int) := by omega
          rw [ec]; exact hlt
      refine q_ne (a := AD σ ((hb σ g + m : Nat) : Int)) (b := -1) (by (first | exact B31_s (by omega) (by omega) | exact B31_of _ | (constructor <;> omega))) (by (first | exact B31_s (by omega) (by omega) | exact B31_of _ | (constructor <;> omega))) (fun hadd => ?_) (fun hno => ?_)
      · have hadd' : 0 ≤ AD σ ((hb σ g + m : Nat) : Int) := by omega
        have e5 : eI (b + 1 - n - ((cn σ (hb σ g) m : Nat) : Int)) + (-1) = eI (b + 1 - n - ((cn σ (hb σ g) m : Nat) : Int) - 1) := by
          rw [eI_m1]; (try simp only [eI_lit, eI_neg, eI_add, eI_sub, eI_mul, eF_ap, upd_eF]); congr 1
        rw [e5]
        refine q_le0 (by (first | exact B31_s (by omega) (by omega) | exact B31_of _ | (constructor <;> omega))) (fun _ => test hadd') (fun hmis => ?_)
        refine q_lt (b := 4) (by (first | exact B31_s (by omega) (by omega) | exact B31_of _ | (constructor <;> omega))) (by (first | exact B31_s (by omega) (by omega) | exact B31_of _ | (constructor <;> omega))) (fun _ => test hadd') (fun hl4 => ?_)
        rw [r2.sz]
        refine q_lt (b := 20) (by (first | exact B31_s (by omega) (by omega) | exact B31_of _ | (constructor <;> omega))) (by (first | exact B31_s (by omega) (by omega) | exact B31_of _ | (constructor <;> omega))) (fun _ => ?_) (fun h => by omega)
        refine L_haltAt HH hq1 (by omega) ?_
        refine And.intro (eI_in (by omega) (by omega) (by omega)) ?_; (try simp (disch := omega) only [eI_cl, Int.toNat_natCast])
        refine R_insert r2 D (by omega) (by omega) (Nat.le_refl _) hadd' (by omega) (fun ia3 k3 l3 w3 s3 e3 p3 hh3 r3 => ?_)
        have eap : apX σ (hb σ g) X (m + 1) = (apX σ (hb σ g) X m).ins (apX σ (hb σ g) X m).n (AD σ ((hb σ g + m : Nat) : Int)) (ST σ (AD σ ((hb σ g + m : Nat) : Int))) := by rw [apX, if_pos hadd']
        have ecn : cn σ (hb σ g) (m + 1) = cn σ (hb σ g) m + 1 := by rw [cn_r, if_pos hadd']
        refine hst2 (mu - 1) _ _ _ _ _ _ _ _ _ _ _ (by omega) ⟨m + 1, by omega, ?_, ?_, by rw [ecn]; omega, fun h => by omega, by rw [eap]; exact r3, fun j hj => ?_⟩
        · rw [ecn]; congr 1; omega
        · (try simp only [eI_lit, eI_neg, eI_add, eI_sub, eI_mul, eF_ap, upd_eF]); congr 1
        · rw [eap] at hj
          have hj' : j < (apX σ (hb σ g) X m).n + 1 := hj
          have esn : snc σ (hb σ g) X (g : Int) (m + 1) = updI (snc σ (hb σ g) X (g : Int) m) (apX σ (hb σ g) X m).n (AT σ ((hb σ g + m : Nat) : Int)) := by rw [snc, if_pos hadd']
          rw [esn]
          by_cases e : j = (apX σ (hb σ g) X m).n
          · subst e; rw [upd_s, updI_s]
          · rw [upd_n e, updI_n _ e]; exact hs2 j (by omega)
      · have hno' : ¬ 0 ≤ AD σ ((hb σ g + m : Nat) : Int) := by omega
        have ecn : cn σ (hb σ g) (m + 1) = cn σ (hb σ g) m := by rw [cn_r, if_neg hno', Nat.add_zero]
        have eap : apX σ (hb σ g) X (m + 1) = apX σ (hb σ g) X m := by rw [apX, if_neg hno']
        have esn : snc σ (hb σ g) X (g : Int) (m + 1) = snc σ (hb σ g) X (g : Int) m := by rw [snc, if_neg hno']
        exact hst2 (mu - 1) _ _ _ _ _ _ _ _ _ _ _ (by omega) ⟨m + 1, by omega, by rw [ecn], by (try simp only [eI_lit, eI_neg, eI_add, eI_sub, eI_mul, eF_ap, upd_eF]); congr 1, by rw [ecn]; exact hcb, by rw [ecn]; exact hc4, by rw [eap]; exact r2, by rw [eap, esn]; exact hs2⟩
  · refine And.intro (eI_in (by omega) (by omega) (by omega)) ?_; (try simp (disch := omega) only [eI_cl, Int.toNat_natCast])
    refine hst (q + 1) _ _ (by omega) ⟨by omega, by (try simp only [eI_lit, eI_neg, eI_add, eI_sub, eI_mul, eF_ap, upd_eF]); congr 1, fun j hj => ?_⟩
    by_cases e : j = q
    · subst e; rw [upd_s]
    · rw [upd_n e]; exact hsn j (by omega)
