/-! longest of the class: search and branch (written by mksearch.py) -/
theorem C_search_4 {σ : Nat → Int} (O : LOk σ) {f g n : Nat} {X : RW} {pc : Nat → Nat} {A : AC} {mo : Int} (N : NI σ f g X n) (hn : 4 ≤ n) (hA : ABd A) (hmo : (n : Int) + rm σ g ≤ mo) (hmo2 : mo ≤ 400) {i il r4i ia r4K aK r4L aL r4W aW r4S aS r4E aE r4P aP r4H aH sn hl gs gl ab d r4b pl bp : F32} (r : RowR σ X (g : Int) (hb σ g) r4i r4K r4L r4W r4S r4E r4P r4H) (I : LnI σ il) (G : LnG σ gl) (HH : LnH σ hl) (D : LnK σ d) (GS : GSm σ gs) (V : SA A mo i bp) (hpl : ∀ q, q < 4 → pl q = eI (pc q)) {Q : F32 → F32 → F32 → F32 → F32 → F32 → F32 → F32 → F32 → F32 → F32 → F32 → F32 → F32 → F32 → F32 → F32 → F32 → F32 → F32 → F32 → Prop} (hq : ∀ i' r4i' ia' r4K' aK' r4L' aL' r4W' aW' r4S' aS' r4E' aE' r4P' aP' r4H' aH' sn' ab' r4b' bp', SA (srch σ f g X n pc A) mo i' bp' → Q i' r4i' ia' r4K' aK' r4L' aL' r4W' aW' r4S' aS' r4E' aE' r4P' aP' r4H' aH' sn' ab' r4b' bp') : w_Lives_search_4 i il r4i ia r4K aK r4L aL r4W aW r4S aS r4E aE r4P aP r4H aH sn hl gs gl ab d r4b pl bp (eI n) Q := by
  have hU := O.u
  have hhc := O.hc
  have hA' := hA
  obtain ⟨hA1, hA2⟩ := hA'
  have h18 := N.n18 O
  have hgf := N.gf
  have run : ∀ ia aK aL aW aS aE aP aH sn ab, j_Lives_search_4_34 i il r4i ia r4K aK r4L aL r4W aW r4S aS r4E aE r4P aP r4H aH sn hl gl ab d r4b pl bp (eI n) Q := fun ia aK aL aW aS aE aP aH sn ab => by
    unfold j_Lives_search_4_34
    rw [r.hd]
    have e0 : eI (g : Int) + 1 = eI ((g : Int) + 1) := by (try simp only [eI_lit, eI_neg, eI_add, eI_sub, eI_mul, eF_ap, upd_eF])
    rw [e0]
    refine lg_Lives_search_4_43 (G := Nat) (fun mu x5 x6 r4i' r4K' r4L' r4W' r4S' r4E' r4P' r4H' r4b' => ∃ g' n' Y, NI σ mu g' Y n' ∧ 4 ≤ n' ∧ x5 = eI ((n' : Nat) : Int) ∧ x6 = eI ((g' : Int) + 1) ∧ RowR σ Y (g' : Int) (hb σ g') r4i' r4K' r4L' r4W' r4S' r4E' r4P' r4H' ∧ srch σ f g X n pc A = srch σ mu g' Y n' pc A) (fun mu => mu) ?_ f ⟨g, n, X, N, hn, rfl, rfl, r, rfl⟩
    rintro kr mu x5 x6 r4i' r4K' r4L' r4W' r4S' r4E' r4P' r4H' r4b' ⟨g', n', Y, NY, hn', rfl, rfl, rY, hE⟩ hst
    have hgf' := NY.gf
    have h18' := NY.n18 O
    have hnb' := NY.nb
    have hbl' := hb_le O (g' : Int)
    unfold b_Lives_search_4_43
    rw [I.u]
    refine q_le (by (first | exact B31_s (by omega) (by omega) | exact B31_of _ | (constructor <;> omega))) (by (first | exact B31_s (by omega) (by omega) | exact B31_of _ | (constructor <;> omega))) (fun hend => ?_) (fun hmore => ?_)
    · have e1 : mu = 0 := by omega
      subst e1
      rw [srch] at hE
      unfold j_Lives_search_4_124
      exact V.leaf hA (by omega) (l := 4) (by omega) hpl (by decide) (fun i' bp' V' => hq i' _ _ _ _ _ _ _ _ _ _ _ _ _ _ _ _ _ _ _ bp' (by rw [hE]; exact V'))
    · obtain ⟨mu', rfl⟩ : ∃ mu', mu = mu' + 1 := ⟨mu - 1, by omega⟩
      rw [srch] at hE
      refine C_holdsAt O rY I G NY.ok (by omega) NY.p0 (by omega) (by omega) (fun hp i2 b2 r2 => ?_) (fun hp i2 b2 E2 r2 => ?_)
      · (first | refine z0T ?_ | refine z0N ?_)
        rw [if_pos hp] at hE
        unfold j_Lives_search_4_124
        exact (V.u8 (x := (g' : Int) + 1) (by omega)).leaf hA (by omega) (l := 4) (by omega) hpl (by decide) (fun i' bp' V' => hq i' _ _ _ _ _ _ _ _ _ _ _ _ _ _ _ _ _ _ _ bp' (by rw [hE]; exact V'))
      · (first | refine z1T ?_ | refine z1N ?_)
        rw [if_neg (by omega)] at hE
        refine R_arrive O r2 I HH (by (first | exact B31_s (by omega) (by omega) | exact B31_of _ | (constructor <;> omega))) (by omega) (fun i3 r3 => ?_)
        rw [hb_next O (by omega)] at r3
        have hadb := adN_b O (hb σ g') ((g' : Int) + 1)
        have hkc := O.kc
        have e1 : eI ((g' : Int) + 1) + 1 = eI (((g' + 1 : Nat) : Int) + 1) := by (try simp only [eI_lit, eI_neg, eI_add, eI_sub, eI_mul, eF_ap, upd_eF]); congr 1
        have e2 : ((g' + 1 : Nat) : Int) = (g' : Int) + 1 := by omega
        refine q_eq (a := adN σ (hb σ g') ((g' : Int) + 1)) (b := -1) (by (first | exact B31_s (by omega) (by omega) | exact B31_of _ | (constructor <;> omega))) (by (first | exact B31_s (by omega) (by omega) | exact B31_of _ | (constructor <;> omega))) (fun hno => ?_) (fun hadd => ?_)
        · rw [if_neg (by omega)] at hE
          rw [e1]
          exact hst mu' _ _ _ _ _ _ _ _ _ _ _ (by omega) ⟨g' + 1, n', wrX σ Y ((g' : Int) + 1), (NY.wr O).2, hn', rfl, rfl, by rw [e2]; exact r3, hE⟩
        · rw [if_pos (by omega), if_neg (by omega)] at hE
          have hin := NY.in_ O (q := Y.n) (by omega) (Nat.le_refl _)
          have e8 : i3 8 = eI Y.n := r3.sz
          rw [e8]
          refine R_insert r3 D (by omega) (by show Y.n < 20; omega) (Nat.le_refl _) (by omega) (by omega) (fun i4 K4 L4 W4 S4 E4 P4 H4 r4 => ?_)
          rw [e1]
          exact hst mu' _ _ _ _ _ _ _ _ _ _ _ (by omega) ⟨g' + 1, n' + 1, _, hin, by omega, by (try simp only [eI_lit, eI_neg, eI_add, eI_sub, eI_mul, eF_ap, upd_eF]); congr 1, rfl, by rw [e2]; exact r4, hE⟩
  unfold w_Lives_search_4
  rw [V.b]
  refine q_lt (by (first | exact B31_s (by omega) (by omega) | exact B31_of _ | (constructor <;> omega))) (by (first | exact B31_s (by omega) (by omega) | exact B31_of _ | (constructor <;> omega))) (fun _ => run _ _ _ _ _ _ _ _ _ _) (fun hle => ?_)
  obtain ⟨dh, hd1, hd2⟩ := V.d
  refine C_mayBeBetter O N (b := A.1) (by omega) (by omega) (lev := 4) (by omega) r I G HH D GS V.b hd1 hd2 (fun hlb ia' k' l' w' s' e' p' h' sn' bb' => ?_) (fun ia' k' l' w' s' e' p' h' sn' bb' => ?_)
  · (first | refine z0T ?_ | refine z0N ?_)
    exact hq _ _ _ _ _ _ _ _ _ _ _ _ _ _ _ _ _ _ _ _ _ (by rw [srch_id f g X n pc hlb]; exact V)
  · (first | refine z1T ?_ | refine z1N ?_)
    exact run _ _ _ _ _ _ _ _ _ _

theorem C_branch_3 {σ : Nat → Int} (O : LOk σ) {f gp n : Nat} {Z : RW} {pc : Nat → Nat} {A : AC} {mo a : Int} (hn : n = 3) (hA : ABd A) (hmo : ((n + 1 : Nat) : Int) + rm σ gp ≤ mo) (hmo2 : mo ≤ 400) (hZ : Z.n ≤ 17) (ha0 : 0 ≤ a) (ha1 : a < σ 3) (NC : ∀ q, q ≤ Z.n → NI σ f gp (Z.ins q a (ST σ a)) (n + 1)) {i il r3i pl r4i r3K r4K r3L r4L r3W r4W r3S r4S r3E r4E r3P r4P r3H r4H d ia aK aL aW aS aE aP aH sn hl gs gl ab r4b bp : F32} (r : RowR σ Z (gp : Int) (hb σ gp) r3i r3K r3L r3W r3S r3E r3P r3H) (I : LnI σ il) (G : LnG σ gl) (HH : LnH σ hl) (D : LnK σ d) (GS : GSm σ gs) (V : SA A mo i bp) (hpl : ∀ q, q < 3 → pl q = eI (pc q)) {Q : F32 → F32 → F32 → F32 → F32 → F32 → F32 → F32 → F32 → F32 → F32 → F32 → F32 → F32 → F32 → F32 → F32 → F32 → F32 → F32 → F32 → F32 → Prop} (hq : ∀ i' pl' r4i' r4K' r4L' r4W' r4S' r4E' r4P' r4H' ia' aK' aL' aW' aS' aE' aP' aH' sn' ab' r4b' bp', SA (fd (fun q A => srch σ f gp (Z.ins q a (ST σ a)) (n + 1) (updN pc n q) A) (Z.n + 1) A) mo i' bp' → (∀ q, q < 3 → pl' q = eI (pc q)) → Q i' pl' r4i' r4K' r4L' r4W' r4S' r4E' r4P' r4H' ia' aK' aL' aW' aS' aE' aP' aH' sn' ab' r4b' bp') : w_Lives_branch_3 i il r3i pl r4i r3K r4K r3L r4L r3W r4W r3S r4S r3E r4E r3P r4P r3H r4H d ia aK aL aW aS aE aP aH sn hl gs gl ab r4b bp (eI ((n + 1 : Nat) : Int)) (eI a) Q := by
  have hU := O.u
  have hkc := O.kc
  have hN0 := NC 0 (by omega)
  have hg0 := hN0.gf
  have hnb0 := hN0.nb
  have hng0 := hN0.ng
  have hbl0 := hb_le O (gp : Int)
  have hhc := O.hc
  unfold w_Lives_branch_3
  refine lg_Lives_branch_3_13 (G := Nat) (fun mu x5 i' pl' r4i' r4K' r4L' r4W' r4S' r4E' r4P' r4H' ia' aK' aL' aW' aS' aE' aP' aH' sn' ab' r4b' bp' => ∃ q, mu + q = Z.n + 1 ∧ x5 = eI ((q : Nat) : Int) ∧ SA (fd (fun q A => srch σ f gp (Z.ins q a (ST σ a)) (n + 1) (updN pc n q) A) q A) mo i' bp' ∧ ABd (fd (fun q A => srch σ f gp (Z.ins q a (ST σ a)) (n + 1) (updN pc n q) A) q A) ∧ ∀ q', q' < 3 → pl' q' = eI (pc q')) (fun mu => mu) ?_ (Z.n + 1) ⟨0, by omega, rfl, V, hA, hpl⟩
  rintro kr mu x5 i' pl' r4i' r4K' r4L' r4W' r4S' r4E' r4P' r4H' ia' aK' aL' aW' aS' aE' aP' aH' sn' ab' r4b' bp' ⟨q, hmu, rfl, V', B', hpl'⟩ hst
  have B2 := B'
  obtain ⟨B1, B3⟩ := B2
  unfold b_Lives_branch_3_13
  rw [r.sz]
  refine q_lt (by (first | exact B31_s (by omega) (by omega) | exact B31_of _ | (constructor <;> omega))) (by (first | exact B31_s (by omega) (by omega) | exact B31_of _ | (constructor <;> omega))) (fun hlt => ?_) (fun hle => ?_)
  · have eq : q = Z.n + 1 := by omega
    subst eq
    exact hq _ _ _ _ _ _ _ _ _ _ _ _ _ _ _ _ _ _ _ _ _ _ V' hpl'
  · rw [V'.m, V'.b]
    refine q_le (by (first | exact B31_s (by omega) (by omega) | exact B31_of _ | (constructor <;> omega))) (by (first | exact B31_s (by omega) (by omega) | exact B31_of _ | (constructor <;> omega))) (fun hm => ?_) (fun hm => ?_)
    · refine hq _ _ _ _ _ _ _ _ _ _ _ _ _ _ _ _ _ _ _ _ _ _ ?_ hpl'
      rw [fd_rest (F := (fun q A => srch σ f gp (Z.ins q a (ST σ a)) (n + 1) (updN pc n q) A)) (q := q) (k := Z.n + 1) (by omega) (fun q' h1 h2 => by
        show srch σ f gp (Z.ins q' a (ST σ a)) (n + 1) (updN pc n q') (fd (fun q A => srch σ f gp (Z.ins q a (ST σ a)) (n + 1) (updN pc n q) A) q A) = _
        exact srch_id f gp _ _ _ (LB_most O f gp _ _ (by omega)))]
      exact V'
    · refine R_copy r (by omega) (fun c1i c1K c1L c1W c1S c1E c1P c1H r1 => ?_)
      refine R_insert r1 D (by omega) (by omega) (by omega) ha0 ha1 (fun c2i c2K c2L c2W c2S c2E c2P c2H r2 => ?_)
      refine C_search_4 (n := n + 1) (pc := updN pc n q) (A := fd (fun q A => srch σ f gp (Z.ins q a (ST σ a)) (n + 1) (updN pc n q) A) q A) O (NC q (by omega)) (by omega) B' hmo hmo2 r2 I G HH D GS V' (fun q' h' => ?_) (fun i2 r4i2 ia2 r4K2 aK2 r4L2 aL2 r4W2 aW2 r4S2 aS2 r4E2 aE2 r4P2 aP2 r4H2 aH2 sn2 ab2 r4b2 bp2 V2 => ?_)
      · by_cases e : q' = 3
        · subst e
          have e3 : updN pc n q 3 = q := by rw [← hn, updN_s]
          rw [upd_s, e3]
        · rw [upd_n e, updN_n (by omega)]; exact hpl' q' (by omega)
      · exact hst (mu - 1) _ _ _ _ _ _ _ _ _ _ _ _ _ _ _ _ _ _ _ _ _ _ _ (by omega) ⟨q + 1, by omega, by (try simp only [eI_lit, eI_neg, eI_add, eI_sub, eI_mul, eF_ap, upd_eF]); congr 1, V2, srch_bd f gp _ _ _ _ (by omega) B', fun q' h' => by rw [upd_n (by omega)]; exact hpl' q' h'⟩

theorem C_search_3 {σ : Nat → Int} (O : LOk σ) {f g n : Nat} {X : RW} {pc : Nat → Nat} {A : AC} {mo : Int} (N : NI σ f g X n) (hn : n = 3) (hA : ABd A) (hmo : (n : Int) + rm σ g ≤ mo) (hmo2 : mo ≤ 400) {i il r3i ia r3K aK r3L aL r3W aW r3S aS r3E aE r3P aP r3H aH sn hl gs gl ab d r3b pl bp r4i r4K r4L r4W r4S r4E r4P r4H r4b : F32} (r : RowR σ X (g : Int) (hb σ g) r3i r3K r3L r3W r3S r3E r3P r3H) (I : LnI σ il) (G : LnG σ gl) (HH : LnH σ hl) (D : LnK σ d) (GS : GSm σ gs) (V : SA A mo i bp) (hpl : ∀ q, q < 3 → pl q = eI (pc q)) {Q : F32 → F32 → F32 → F32 → F32 → F32 → F32 → F32 → F32 → F32 → F32 → F32 → F32 → F32 → F32 → F32 → F32 → F32 → F32 → F32 → F32 → F32 → F32 → F32 → F32 → Prop} (hq : ∀ i' r3i' ia' aK' aL' aW' aS' r3E' aE' aP' aH' sn' ab' r3b' pl' bp' r4i' r4K' r4L' r4W' r4S' r4E' r4P' r4H' r4b', SA (srch σ f g X n pc A) mo i' bp' → (∀ q, q < 3 → pl' q = eI (pc q)) → Q i' r3i' ia' aK' aL' aW' aS' r3E' aE' aP' aH' sn' ab' r3b' pl' bp' r4i' r4K' r4L' r4W' r4S' r4E' r4P' r4H' r4b') : w_Lives_search_3 i il r3i ia r3K aK r3L aL r3W aW r3S aS r3E aE r3P aP r3H aH sn hl gs gl ab d r3b pl bp r4i r4K r4L r4W r4S r4E r4P r4H r4b (eI n) Q := by
  have hU := O.u
  have hhc := O.hc
  have hA' := hA
  obtain ⟨hA1, hA2⟩ := hA'
  have h18 := N.n18 O
  have hgf := N.gf
  have run : ∀ ia aK aL aW aS aE aP aH sn ab, j_Lives_search_3_34 i il r3i ia r3K aK r3L aL r3W aW r3S aS r3E aE r3P aP r3H aH sn hl gs gl ab d r3b pl bp r4i r4K r4L r4W r4S r4E r4P r4H r4b (eI n) Q := fun ia aK aL aW aS aE aP aH sn ab => by
    unfold j_Lives_search_3_34
    rw [r.hd]
    have e0 : eI (g : Int) + 1 = eI ((g : Int) + 1) := by (try simp only [eI_lit, eI_neg, eI_add, eI_sub, eI_mul, eF_ap, upd_eF])
    rw [e0]
    refine lg_Lives_search_3_43 (G := Nat) (fun mu x6 r3i' r3E' r3b' => ∃ g' Y, NI σ mu g' Y n ∧ x6 = eI ((g' : Int) + 1) ∧ RowR σ Y (g' : Int) (hb σ g') r3i' r3K r3L r3W r3S r3E' r3P r3H ∧ srch σ f g X n pc A = srch σ mu g' Y n pc A ∧ (n : Int) + rm σ g' ≤ mo) (fun mu => mu) ?_ f ⟨g, X, N, rfl, r, rfl, hmo⟩
    rintro kr mu x6 r3i' r3E' r3b' ⟨g', Y, NY, rfl, rY, hE, hmo'⟩ hst
    have hgf' := NY.gf
    have h18' := NY.n18 O
    have hnb' := NY.nb
    have hbl' := hb_le O (g' : Int)
    unfold b_Lives_search_3_43
    rw [I.u]
    refine q_le (by (first | exact B31_s (by omega) (by omega) | exact B31_of _ | (constructor <;> omega))) (by (first | exact B31_s (by omega) (by omega) | exact B31_of _ | (constructor <;> omega))) (fun hend => ?_) (fun hmore => ?_)
    · have e1 : mu = 0 := by omega
      subst e1
      rw [srch] at hE
      unfold j_Lives_search_3_124
      exact V.leaf hA (by omega) (l := 3) (by omega) hpl (by decide) (fun i' bp' V' => hq i' _ _ _ _ _ _ _ _ _ _ _ _ _ _ bp' _ _ _ _ _ _ _ _ _ (by rw [hE]; exact V') hpl)
    · obtain ⟨mu', rfl⟩ : ∃ mu', mu = mu' + 1 := ⟨mu - 1, by omega⟩
      rw [srch] at hE
      refine C_holdsAt O rY I G NY.ok (by omega) NY.p0 (by omega) (by omega) (fun hp i2 b2 r2 => ?_) (fun hp i2 b2 E2 r2 => ?_)
      · (first | refine z0T ?_ | refine z0N ?_)
        rw [if_pos hp] at hE
        unfold j_Lives_search_3_124
        exact (V.u8 (x := (g' : Int) + 1) (by omega)).leaf hA (by omega) (l := 3) (by omega) hpl (by decide) (fun i' bp' V' => hq i' _ _ _ _ _ _ _ _ _ _ _ _ _ _ bp' _ _ _ _ _ _ _ _ _ (by rw [hE]; exact V') hpl)
      · (first | refine z1T ?_ | refine z1N ?_)
        rw [if_neg (by omega)] at hE
        refine R_arrive O r2 I HH (by (first | exact B31_s (by omega) (by omega) | exact B31_of _ | (constructor <;> omega))) (by omega) (fun i3 r3 => ?_)
        rw [hb_next O (by omega)] at r3
        have hadb := adN_b O (hb σ g') ((g' : Int) + 1)
        have hkc := O.kc
        have e1 : eI ((g' : Int) + 1) + 1 = eI (((g' + 1 : Nat) : Int) + 1) := by (try simp only [eI_lit, eI_neg, eI_add, eI_sub, eI_mul, eF_ap, upd_eF]); congr 1
        have e2 : ((g' + 1 : Nat) : Int) = (g' : Int) + 1 := by omega
        refine q_eq (a := adN σ (hb σ g') ((g' : Int) + 1)) (b := -1) (by (first | exact B31_s (by omega) (by omega) | exact B31_of _ | (constructor <;> omega))) (by (first | exact B31_s (by omega) (by omega) | exact B31_of _ | (constructor <;> omega))) (fun hno => ?_) (fun hadd => ?_)
        · rw [if_neg (by omega)] at hE
          rw [e1]
          have hrm := rm_s O g'
          rw [if_neg (by omega)] at hrm
          exact hst mu' _ _ _ _ (by omega) ⟨g' + 1, wrX σ Y ((g' : Int) + 1), (NY.wr O).2, rfl, by rw [e2]; exact r3, hE, by omega⟩
        · rw [if_pos (by omega), if_pos (by omega)] at hE
          have hrm := rm_s O g'
          rw [if_pos (by omega)] at hrm
          have en : eI (n : Int) + 1 = eI ((n + 1 : Nat) : Int) := by (try simp only [eI_lit, eI_neg, eI_add, eI_sub, eI_mul, eF_ap, upd_eF]); congr 1
          rw [en]
          exact C_branch_3 (gp := g' + 1) (Z := wrX σ Y ((g' : Int) + 1)) (f := mu') O hn hA (by omega) hmo2 (by have h17 := ((NY.in_ O (q := 0) (by omega) (by omega)).n18 O).2; have e17 : Y.n + 1 ≤ 18 := h17; show Y.n ≤ 17; omega) (by omega) (by omega) (fun q hq => NY.in_ O (by omega) hq) (by rw [e2]; exact r3) I G HH D GS V hpl (fun i' pl' r4i' r4K' r4L' r4W' r4S' r4E' r4P' r4H' ia' aK' aL' aW' aS' aE' aP' aH' sn' ab' r4b' bp' V' hpl' => hq i' _ ia' aK' aL' aW' aS' _ aE' aP' aH' sn' ab' _ pl' bp' r4i' r4K' r4L' r4W' r4S' r4E' r4P' r4H' r4b' (by rw [hE]; exact V') hpl')
  unfold w_Lives_search_3
  rw [V.b]
  refine q_lt (by (first | exact B31_s (by omega) (by omega) | exact B31_of _ | (constructor <;> omega))) (by (first | exact B31_s (by omega) (by omega) | exact B31_of _ | (constructor <;> omega))) (fun _ => run _ _ _ _ _ _ _ _ _ _) (fun hle => ?_)
  obtain ⟨dh, hd1, hd2⟩ := V.d
  refine C_mayBeBetter O N (b := A.1) (by omega) (by omega) (lev := 3) (by omega) r I G HH D GS V.b hd1 hd2 (fun hlb ia' k' l' w' s' e' p' h' sn' bb' => ?_) (fun ia' k' l' w' s' e' p' h' sn' bb' => ?_)
  · (first | refine z0T ?_ | refine z0N ?_)
    exact hq _ _ _ _ _ _ _ _ _ _ _ _ _ _ _ _ _ _ _ _ _ _ _ _ _ (by rw [srch_id f g X n pc hlb]; exact V) hpl
  · (first | refine z1T ?_ | refine z1N ?_)
    exact run _ _ _ _ _ _ _ _ _ _

theorem C_branch_2 {σ : Nat → Int} (O : LOk σ) {f gp n : Nat} {Z : RW} {pc : Nat → Nat} {A : AC} {mo a : Int} (hn : n = 2) (hA : ABd A) (hmo : ((n + 1 : Nat) : Int) + rm σ gp ≤ mo) (hmo2 : mo ≤ 400) (hZ : Z.n ≤ 17) (ha0 : 0 ≤ a) (ha1 : a < σ 3) (NC : ∀ q, q ≤ Z.n → NI σ f gp (Z.ins q a (ST σ a)) (n + 1)) {i il r2i pl r3i r2K r3K r2L r3L r2W r3W r2S r3S r2E r3E r2P r3P r2H r3H d ia aK aL aW aS aE aP aH sn hl gs gl ab r3b bp r4i r4K r4L r4W r4S r4E r4P r4H r4b : F32} (r : RowR σ Z (gp : Int) (hb σ gp) r2i r2K r2L r2W r2S r2E r2P r2H) (I : LnI σ il) (G : LnG σ gl) (HH : LnH σ hl) (D : LnK σ d) (GS : GSm σ gs) (V : SA A mo i bp) (hpl : ∀ q, q < 2 → pl q = eI (pc q)) {Q : F32 → F32 → F32 → F32 → F32 → F32 → F32 → F32 → F32 → F32 → F32 → F32 → F32 → F32 → F32 → F32 → F32 → F32 → F32 → F32 → F32 → F32 → F32 → F32 → F32 → F32 → F32 → F32 → F32 → F32 → F32 → Prop} (hq : ∀ i' pl' r3i' r3K' r3L' r3W' r3S' r3E' r3P' r3H' ia' aK' aL' aW' aS' aE' aP' aH' sn' ab' r3b' bp' r4i' r4K' r4L' r4W' r4S' r4E' r4P' r4H' r4b', SA (fd (fun q A => srch σ f gp (Z.ins q a (ST σ a)) (n + 1) (updN pc n q) A) (Z.n + 1) A) mo i' bp' → (∀ q, q < 2 → pl' q = eI (pc q)) → Q i' pl' r3i' r3K' r3L' r3W' r3S' r3E' r3P' r3H' ia' aK' aL' aW' aS' aE' aP' aH' sn' ab' r3b' bp' r4i' r4K' r4L' r4W' r4S' r4E' r4P' r4H' r4b') : w_Lives_branch_2 i il r2i pl r3i r2K r3K r2L r3L r2W r3W r2S r3S r2E r3E r2P r3P r2H r3H d ia aK aL aW aS aE aP aH sn hl gs gl ab r3b bp r4i r4K r4L r4W r4S r4E r4P r4H r4b (eI ((n + 1 : Nat) : Int)) (eI a) Q := by
  have hU := O.u
  have hkc := O.kc
  have hN0 := NC 0 (by omega)
  have hg0 := hN0.gf
  have hnb0 := hN0.nb
  have hng0 := hN0.ng
  have hbl0 := hb_le O (gp : Int)
  have hhc := O.hc
  unfold w_Lives_branch_2
  refine lg_Lives_branch_2_13 (G := Nat) (fun mu x5 i' pl' r3i' r3K' r3L' r3W' r3S' r3E' r3P' r3H' ia' aK' aL' aW' aS' aE' aP' aH' sn' ab' r3b' bp' r4i' r4K' r4L' r4W' r4S' r4E' r4P' r4H' r4b' => ∃ q, mu + q = Z.n + 1 ∧ x5 = eI ((q : Nat) : Int) ∧ SA (fd (fun q A => srch σ f gp (Z.ins q a (ST σ a)) (n + 1) (updN pc n q) A) q A) mo i' bp' ∧ ABd (fd (fun q A => srch σ f gp (Z.ins q a (ST σ a)) (n + 1) (updN pc n q) A) q A) ∧ ∀ q', q' < 2 → pl' q' = eI (pc q')) (fun mu => mu) ?_ (Z.n + 1) ⟨0, by omega, rfl, V, hA, hpl⟩
  rintro kr mu x5 i' pl' r3i' r3K' r3L' r3W' r3S' r3E' r3P' r3H' ia' aK' aL' aW' aS' aE' aP' aH' sn' ab' r3b' bp' r4i' r4K' r4L' r4W' r4S' r4E' r4P' r4H' r4b' ⟨q, hmu, rfl, V', B', hpl'⟩ hst
  have B2 := B'
  obtain ⟨B1, B3⟩ := B2
  unfold b_Lives_branch_2_13
  rw [r.sz]
  refine q_lt (by (first | exact B31_s (by omega) (by omega) | exact B31_of _ | (constructor <;> omega))) (by (first | exact B31_s (by omega) (by omega) | exact B31_of _ | (constructor <;> omega))) (fun hlt => ?_) (fun hle => ?_)
  · have eq : q = Z.n + 1 := by omega
    subst eq
    exact hq _ _ _ _ _ _ _ _ _ _ _ _ _ _ _ _ _ _ _ _ _ _ _ _ _ _ _ _ _ _ _ V' hpl'
  · rw [V'.m, V'.b]
    refine q_le (by (first | exact B31_s (by omega) (by omega) | exact B31_of _ | (constructor <;> omega))) (by (first | exact B31_s (by omega) (by omega) | exact B31_of _ | (constructor <;> omega))) (fun hm => ?_) (fun hm => ?_)
    · refine hq _ _ _ _ _ _ _ _ _ _ _ _ _ _ _ _ _ _ _ _ _ _ _ _ _ _ _ _ _ _ _ ?_ hpl'
      rw [fd_rest (F := (fun q A => srch σ f gp (Z.ins q a (ST σ a)) (n + 1) (updN pc n q) A)) (q := q) (k := Z.n + 1) (by omega) (fun q' h1 h2 => by
        show srch σ f gp (Z.ins q' a (ST σ a)) (n + 1) (updN pc n q') (fd (fun q A => srch σ f gp (Z.ins q a (ST σ a)) (n + 1) (updN pc n q) A) q A) = _
        exact srch_id f gp _ _ _ (LB_most O f gp _ _ (by omega)))]
      exact V'
    · refine R_copy r (by omega) (fun c1i c1K c1L c1W c1S c1E c1P c1H r1 => ?_)
      refine R_insert r1 D (by omega) (by omega) (by omega) ha0 ha1 (fun c2i c2K c2L c2W c2S c2E c2P c2H r2 => ?_)
      refine C_search_3 (n := n + 1) (pc := updN pc n q) (A := fd (fun q A => srch σ f gp (Z.ins q a (ST σ a)) (n + 1) (updN pc n q) A) q A) O (NC q (by omega)) (by omega) B' hmo hmo2 r2 I G HH D GS V' (fun q' h' => ?_) (fun i2 r3i2 ia2 aK2 aL2 aW2 aS2 r3E2 aE2 aP2 aH2 sn2 ab2 r3b2 pl2 bp2 r4i2 r4K2 r4L2 r4W2 r4S2 r4E2 r4P2 r4H2 r4b2 V2 hpl2 => ?_)
      · by_cases e : q' = 2
        · subst e
          have e3 : updN pc n q 2 = q := by rw [← hn, updN_s]
          rw [upd_s, e3]
        · rw [upd_n e, updN_n (by omega)]; exact hpl' q' (by omega)
      · exact hst (mu - 1) _ _ _ _ _ _ _ _ _ _ _ _ _ _ _ _ _ _ _ _ _ _ _ _ _ _ _ _ _ _ _ _ (by omega) ⟨q + 1, by omega, by (try simp only [eI_lit, eI_neg, eI_add, eI_sub, eI_mul, eF_ap, upd_eF]); congr 1, V2, srch_bd f gp _ _ _ _ (by omega) B', fun q' h' => by rw [hpl2 q' (by omega), updN_n (by omega)]⟩

theorem C_search_2 {σ : Nat → Int} (O : LOk σ) {f g n : Nat} {X : RW} {pc : Nat → Nat} {A : AC} {mo : Int} (N : NI σ f g X n) (hn : n = 2) (hA : ABd A) (hmo : (n : Int) + rm σ g ≤ mo) (hmo2 : mo ≤ 400) {i il r2i ia r2K aK r2L aL r2W aW r2S aS r2E aE r2P aP r2H aH sn hl gs gl ab d r2b pl bp r3i r3K r3L r3W r3S r3E r3P r3H r3b r4i r4K r4L r4W r4S r4E r4P r4H r4b : F32} (r : RowR σ X (g : Int) (hb σ g) r2i r2K r2L r2W r2S r2E r2P r2H) (I : LnI σ il) (G : LnG σ gl) (HH : LnH σ hl) (D : LnK σ d) (GS : GSm σ gs) (V : SA A mo i bp) (hpl : ∀ q, q < 2 → pl q = eI (pc q)) {Q : F32 → F32 → F32 → F32 → F32 → F32 → F32 → F32 → F32 → F32 → F32 → F32 → F32 → F32 → F32 → F32 → F32 → F32 → F32 → F32 → F32 → F32 → F32 → F32 → F32 → F32 → F32 → F32 → F32 → F32 → F32 → F32 → F32 → F32 → Prop} (hq : ∀ i' r2i' ia' aK' aL' aW' aS' r2E' aE' aP' aH' sn' ab' r2b' pl' bp' r3i' r3K' r3L' r3W' r3S' r3E' r3P' r3H' r3b' r4i' r4K' r4L' r4W' r4S' r4E' r4P' r4H' r4b', SA (srch σ f g X n pc A) mo i' bp' → (∀ q, q < 2 → pl' q = eI (pc q)) → Q i' r2i' ia' aK' aL' aW' aS' r2E' aE' aP' aH' sn' ab' r2b' pl' bp' r3i' r3K' r3L' r3W' r3S' r3E' r3P' r3H' r3b' r4i' r4K' r4L' r4W' r4S' r4E' r4P' r4H' r4b') : w_Lives_search_2 i il r2i ia r2K aK r2L aL r2W aW r2S aS r2E aE r2P aP r2H aH sn hl gs gl ab d r2b pl bp r3i r3K r3L r3W r3S r3E r3P r3H r3b r4i r4K r4L r4W r4S r4E r4P r4H r4b (eI n) Q := by
  have hU := O.u
  have hhc := O.hc
  have hA' := hA
  obtain ⟨hA1, hA2⟩ := hA'
  have h18 := N.n18 O
  have hgf := N.gf
  have run : ∀ ia aK aL aW aS aE aP aH sn ab, j_Lives_search_2_34 i il r2i ia r2K aK r2L aL r2W aW r2S aS r2E aE r2P aP r2H aH sn hl gs gl ab d r2b pl bp r3i r3K r3L r3W r3S r3E r3P r3H r3b r4i r4K r4L r4W r4S r4E r4P r4H r4b (eI n) Q := fun ia aK aL aW aS aE aP aH sn ab => by
    unfold j_Lives_search_2_34
    rw [r.hd]
    have e0 : eI (g : Int) + 1 = eI ((g : Int) + 1) := by (try simp only [eI_lit, eI_neg, eI_add, eI_sub, eI_mul, eF_ap, upd_eF])
    rw [e0]
    refine lg_Lives_search_2_43 (G := Nat) (fun mu x6 r2i' r2E' r2b' => ∃ g' Y, NI σ mu g' Y n ∧ x6 = eI ((g' : Int) + 1) ∧ RowR σ Y (g' : Int) (hb σ g') r2i' r2K r2L r2W r2S r2E' r2P r2H ∧ srch σ f g X n pc A = srch σ mu g' Y n pc A ∧ (n : Int) + rm σ g' ≤ mo) (fun mu => mu) ?_ f ⟨g, X, N, rfl, r, rfl, hmo⟩
    rintro kr mu x6 r2i' r2E' r2b' ⟨g', Y, NY, rfl, rY, hE, hmo'⟩ hst
    have hgf' := NY.gf
    have h18' := NY.n18 O
    have hnb' := NY.nb
    have hbl' := hb_le O (g' : Int)
    unfold b_Lives_search_2_43
    rw [I.u]
    refine q_le (by (first | exact B31_s (by omega) (by omega) | exact B31_of _ | (constructor <;> omega))) (by (first | exact B31_s (by omega) (by omega) | exact B31_of _ | (constructor <;> omega))) (fun hend => ?_) (fun hmore => ?_)
    · have e1 : mu = 0 := by omega
      subst e1
      rw [srch] at hE
      unfold j_Lives_search_2_124
      exact V.leaf hA (by omega) (l := 2) (by omega) hpl (by decide) (fun i' bp' V' => hq i' _ _ _ _ _ _ _ _ _ _ _ _ _ _ bp' _ _ _ _ _ _ _ _ _ _ _ _ _ _ _ _ _ _ (by rw [hE]; exact V') hpl)
    · obtain ⟨mu', rfl⟩ : ∃ mu', mu = mu' + 1 := ⟨mu - 1, by omega⟩
      rw [srch] at hE
      refine C_holdsAt O rY I G NY.ok (by omega) NY.p0 (by omega) (by omega) (fun hp i2 b2 r2 => ?_) (fun hp i2 b2 E2 r2 => ?_)
      · (first | refine z0T ?_ | refine z0N ?_)
        rw [if_pos hp] at hE
        unfold j_Lives_search_2_124
        exact (V.u8 (x := (g' : Int) + 1) (by omega)).leaf hA (by omega) (l := 2) (by omega) hpl (by decide) (fun i' bp' V' => hq i' _ _ _ _ _ _ _ _ _ _ _ _ _ _ bp' _ _ _ _ _ _ _ _ _ _ _ _ _ _ _ _ _ _ (by rw [hE]; exact V') hpl)
      · (first | refine z1T ?_ | refine z1N ?_)
        rw [if_neg (by omega)] at hE
        refine R_arrive O r2 I HH (by (first | exact B31_s (by omega) (by omega) | exact B31_of _ | (constructor <;> omega))) (by omega) (fun i3 r3 => ?_)
        rw [hb_next O (by omega)] at r3
        have hadb := adN_b O (hb σ g') ((g' : Int) + 1)
        have hkc := O.kc
        have e1 : eI ((g' : Int) + 1) + 1 = eI (((g' + 1 : Nat) : Int) + 1) := by (try simp only [eI_lit, eI_neg, eI_add, eI_sub, eI_mul, eF_ap, upd_eF]); congr 1
        have e2 : ((g' + 1 : Nat) : Int) = (g' : Int) + 1 := by omega
        refine q_eq (a := adN σ (hb σ g') ((g' : Int) + 1)) (b := -1) (by (first | exact B31_s (by omega) (by omega) | exact B31_of _ | (constructor <;> omega))) (by (first | exact B31_s (by omega) (by omega) | exact B31_of _ | (constructor <;> omega))) (fun hno => ?_) (fun hadd => ?_)
        · rw [if_neg (by omega)] at hE
          rw [e1]
          have hrm := rm_s O g'
          rw [if_neg (by omega)] at hrm
          exact hst mu' _ _ _ _ (by omega) ⟨g' + 1, wrX σ Y ((g' : Int) + 1), (NY.wr O).2, rfl, by rw [e2]; exact r3, hE, by omega⟩
        · rw [if_pos (by omega), if_pos (by omega)] at hE
          have hrm := rm_s O g'
          rw [if_pos (by omega)] at hrm
          have en : eI (n : Int) + 1 = eI ((n + 1 : Nat) : Int) := by (try simp only [eI_lit, eI_neg, eI_add, eI_sub, eI_mul, eF_ap, upd_eF]); congr 1
          rw [en]
          exact C_branch_2 (gp := g' + 1) (Z := wrX σ Y ((g' : Int) + 1)) (f := mu') O hn hA (by omega) hmo2 (by have h17 := ((NY.in_ O (q := 0) (by omega) (by omega)).n18 O).2; have e17 : Y.n + 1 ≤ 18 := h17; show Y.n ≤ 17; omega) (by omega) (by omega) (fun q hq => NY.in_ O (by omega) hq) (by rw [e2]; exact r3) I G HH D GS V hpl (fun i' pl' r3i' r3K' r3L' r3W' r3S' r3E' r3P' r3H' ia' aK' aL' aW' aS' aE' aP' aH' sn' ab' r3b' bp' r4i' r4K' r4L' r4W' r4S' r4E' r4P' r4H' r4b' V' hpl' => hq i' _ ia' aK' aL' aW' aS' _ aE' aP' aH' sn' ab' _ pl' bp' r3i' r3K' r3L' r3W' r3S' r3E' r3P' r3H' r3b' r4i' r4K' r4L' r4W' r4S' r4E' r4P' r4H' r4b' (by rw [hE]; exact V') hpl')
  unfold w_Lives_search_2
  rw [V.b]
  refine q_lt (by (first | exact B31_s (by omega) (by omega) | exact B31_of _ | (constructor <;> omega))) (by (first | exact B31_s (by omega) (by omega) | exact B31_of _ | (constructor <;> omega))) (fun _ => run _ _ _ _ _ _ _ _ _ _) (fun hle => ?_)
  obtain ⟨dh, hd1, hd2⟩ := V.d
  refine C_mayBeBetter O N (b := A.1) (by omega) (by omega) (lev := 2) (by omega) r I G HH D GS V.b hd1 hd2 (fun hlb ia' k' l' w' s' e' p' h' sn' bb' => ?_) (fun ia' k' l' w' s' e' p' h' sn' bb' => ?_)
  · (first | refine z0T ?_ | refine z0N ?_)
    exact hq _ _ _ _ _ _ _ _ _ _ _ _ _ _ _ _ _ _ _ _ _ _ _ _ _ _ _ _ _ _ _ _ _ _ (by rw [srch_id f g X n pc hlb]; exact V) hpl
  · (first | refine z1T ?_ | refine z1N ?_)
    exact run _ _ _ _ _ _ _ _ _ _

theorem C_branch_1 {σ : Nat → Int} (O : LOk σ) {f gp n : Nat} {Z : RW} {pc : Nat → Nat} {A : AC} {mo a : Int} (hn : n = 1) (hA : ABd A) (hmo : ((n + 1 : Nat) : Int) + rm σ gp ≤ mo) (hmo2 : mo ≤ 400) (hZ : Z.n ≤ 17) (ha0 : 0 ≤ a) (ha1 : a < σ 3) (NC : ∀ q, q ≤ Z.n → NI σ f gp (Z.ins q a (ST σ a)) (n + 1)) {i il r1i pl r2i r1K r2K r1L r2L r1W r2W r1S r2S r1E r2E r1P r2P r1H r2H d ia aK aL aW aS aE aP aH sn hl gs gl ab r2b bp r3i r3K r3L r3W r3S r3E r3P r3H r3b r4i r4K r4L r4W r4S r4E r4P r4H r4b : F32} (r : RowR σ Z (gp : Int) (hb σ gp) r1i r1K r1L r1W r1S r1E r1P r1H) (I : LnI σ il) (G : LnG σ gl) (HH : LnH σ hl) (D : LnK σ d) (GS : GSm σ gs) (V : SA A mo i bp) (hpl : ∀ q, q < 1 → pl q = eI (pc q)) {Q : F32 → F32 → F32 → F32 → F32 → F32 → F32 → F32 → F32 → F32 → F32 → F32 → F32 → F32 → F32 → F32 → F32 → F32 → F32 → F32 → F32 → F32 → F32 → F32 → F32 → F32 → F32 → F32 → F32 → F32 → F32 → F32 → F32 → F32 → F32 → F32 → F32 → F32 → F32 → F32 → Prop} (hq : ∀ i' pl' r2i' r2K' r2L' r2W' r2S' r2E' r2P' r2H' ia' aK' aL' aW' aS' aE' aP' aH' sn' ab' r2b' bp' r3i' r3K' r3L' r3W' r3S' r3E' r3P' r3H' r3b' r4i' r4K' r4L' r4W' r4S' r4E' r4P' r4H' r4b', SA (fd (fun q A => srch σ f gp (Z.ins q a (ST σ a)) (n + 1) (updN pc n q) A) (Z.n + 1) A) mo i' bp' → (∀ q, q < 1 → pl' q = eI (pc q)) → Q i' pl' r2i' r2K' r2L' r2W' r2S' r2E' r2P' r2H' ia' aK' aL' aW' aS' aE' aP' aH' sn' ab' r2b' bp' r3i' r3K' r3L' r3W' r3S' r3E' r3P' r3H' r3b' r4i' r4K' r4L' r4W' r4S' r4E' r4P' r4H' r4b') : w_Lives_branch_1 i il r1i pl r2i r1K r2K r1L r2L r1W r2W r1S r2S r1E r2E r1P r2P r1H r2H d ia aK aL aW aS aE aP aH sn hl gs gl ab r2b bp r3i r3K r3L r3W r3S r3E r3P r3H r3b r4i r4K r4L r4W r4S r4E r4P r4H r4b (eI ((n + 1 : Nat) : Int)) (eI a) Q := by
  have hU := O.u
  have hkc := O.kc
  have hN0 := NC 0 (by omega)
  have hg0 := hN0.gf
  have hnb0 := hN0.nb
  have hng0 := hN0.ng
  have hbl0 := hb_le O (gp : Int)
  have hhc := O.hc
  unfold w_Lives_branch_1
  refine lg_Lives_branch_1_13 (G := Nat) (fun mu x5 i' pl' r2i' r2K' r2L' r2W' r2S' r2E' r2P' r2H' ia' aK' aL' aW' aS' aE' aP' aH' sn' ab' r2b' bp' r3i' r3K' r3L' r3W' r3S' r3E' r3P' r3H' r3b' r4i' r4K' r4L' r4W' r4S' r4E' r4P' r4H' r4b' => ∃ q, mu + q = Z.n + 1 ∧ x5 = eI ((q : Nat) : Int) ∧ SA (fd (fun q A => srch σ f gp (Z.ins q a (ST σ a)) (n + 1) (updN pc n q) A) q A) mo i' bp' ∧ ABd (fd (fun q A => srch σ f gp (Z.ins q a (ST σ a)) (n + 1) (updN pc n q) A) q A) ∧ ∀ q', q' < 1 → pl' q' = eI (pc q')) (fun mu => mu) ?_ (Z.n + 1) ⟨0, by omega, rfl, V, hA, hpl⟩
  rintro kr mu x5 i' pl' r2i' r2K' r2L' r2W' r2S' r2E' r2P' r2H' ia' aK' aL' aW' aS' aE' aP' aH' sn' ab' r2b' bp' r3i' r3K' r3L' r3W' r3S' r3E' r3P' r3H' r3b' r4i' r4K' r4L' r4W' r4S' r4E' r4P' r4H' r4b' ⟨q, hmu, rfl, V', B', hpl'⟩ hst
  have B2 := B'
  obtain ⟨B1, B3⟩ := B2
  unfold b_Lives_branch_1_13
  rw [r.sz]
  refine q_lt (by (first | exact B31_s (by omega) (by omega) | exact B31_of _ | (constructor <;> omega))) (by (first | exact B31_s (by omega) (by omega) | exact B31_of _ | (constructor <;> omega))) (fun hlt => ?_) (fun hle => ?_)
  · have eq : q = Z.n + 1 := by omega
    subst eq
    exact hq _ _ _ _ _ _ _ _ _ _ _ _ _ _ _ _ _ _ _ _ _ _ _ _ _ _ _ _ _ _ _ _ _ _ _ _ _ _ _ _ V' hpl'
  · rw [V'.m, V'.b]
    refine q_le (by (first | exact B31_s (by omega) (by omega) | exact B31_of _ | (constructor <;> omega))) (by (first | exact B31_s (by omega) (by omega) | exact B31_of _ | (constructor <;> omega))) (fun hm => ?_) (fun hm => ?_)
    · refine hq _ _ _ _ _ _ _ _ _ _ _ _ _ _ _ _ _ _ _ _ _ _ _ _ _ _ _ _ _ _ _ _ _ _ _ _ _ _ _ _ ?_ hpl'
      rw [fd_rest (F := (fun q A => srch σ f gp (Z.ins q a (ST σ a)) (n + 1) (updN pc n q) A)) (q := q) (k := Z.n + 1) (by omega) (fun q' h1 h2 => by
        show srch σ f gp (Z.ins q' a (ST σ a)) (n + 1) (updN pc n q') (fd (fun q A => srch σ f gp (Z.ins q a (ST σ a)) (n + 1) (updN pc n q) A) q A) = _
        exact srch_id f gp _ _ _ (LB_most O f gp _ _ (by omega)))]
      exact V'
    · refine R_copy r (by omega) (fun c1i c1K c1L c1W c1S c1E c1P c1H r1 => ?_)
      refine R_insert r1 D (by omega) (by omega) (by omega) ha0 ha1 (fun c2i c2K c2L c2W c2S c2E c2P c2H r2 => ?_)
      refine C_search_2 (n := n + 1) (pc := updN pc n q) (A := fd (fun q A => srch σ f gp (Z.ins q a (ST σ a)) (n + 1) (updN pc n q) A) q A) O (NC q (by omega)) (by omega) B' hmo hmo2 r2 I G HH D GS V' (fun q' h' => ?_) (fun i2 r2i2 ia2 aK2 aL2 aW2 aS2 r2E2 aE2 aP2 aH2 sn2 ab2 r2b2 pl2 bp2 r3i2 r3K2 r3L2 r3W2 r3S2 r3E2 r3P2 r3H2 r3b2 r4i2 r4K2 r4L2 r4W2 r4S2 r4E2 r4P2 r4H2 r4b2 V2 hpl2 => ?_)
      · by_cases e : q' = 1
        · subst e
          have e3 : updN pc n q 1 = q := by rw [← hn, updN_s]
          rw [upd_s, e3]
        · rw [upd_n e, updN_n (by omega)]; exact hpl' q' (by omega)
      · exact hst (mu - 1) _ _ _ _ _ _ _ _ _ _ _ _ _ _ _ _ _ _ _ _ _ _ _ _ _ _ _ _ _ _ _ _ _ _ _ _ _ _ _ _ _ (by omega) ⟨q + 1, by omega, by (try simp only [eI_lit, eI_neg, eI_add, eI_sub, eI_mul, eF_ap, upd_eF]); congr 1, V2, srch_bd f gp _ _ _ _ (by omega) B', fun q' h' => by rw [hpl2 q' (by omega), updN_n (by omega)]⟩

theorem C_search_1 {σ : Nat → Int} (O : LOk σ) {f g n : Nat} {X : RW} {pc : Nat → Nat} {A : AC} {mo : Int} (N : NI σ f g X n) (hn : n = 1) (hA : ABd A) (hmo : (n : Int) + rm σ g ≤ mo) (hmo2 : mo ≤ 400) {i il r1i ia r1K aK r1L aL r1W aW r1S aS r1E aE r1P aP r1H aH sn hl gs gl ab d r1b pl bp r2i r2K r2L r2W r2S r2E r2P r2H r2b r3i r3K r3L r3W r3S r3E r3P r3H r3b r4i r4K r4L r4W r4S r4E r4P r4H r4b : F32} (r : RowR σ X (g : Int) (hb σ g) r1i r1K r1L r1W r1S r1E r1P r1H) (I : LnI σ il) (G : LnG σ gl) (HH : LnH σ hl) (D : LnK σ d) (GS : GSm σ gs) (V : SA A mo i bp) (hpl : ∀ q, q < 1 → pl q = eI (pc q)) {Q : F32 → F32 → F32 → F32 → F32 → F32 → F32 → F32 → F32 → F32 → F32 → F32 → F32 → F32 → F32 → F32 → F32 → F32 → F32 → F32 → F32 → F32 → F32 → F32 → F32 → F32 → F32 → F32 → F32 → F32 → F32 → F32 → F32 → F32 → F32 → F32 → F32 → F32 → F32 → F32 → F32 → F32 → F32 → Prop} (hq : ∀ i' r1i' ia' aK' aL' aW' aS' r1E' aE' aP' aH' sn' ab' r1b' pl' bp' r2i' r2K' r2L' r2W' r2S' r2E' r2P' r2H' r2b' r3i' r3K' r3L' r3W' r3S' r3E' r3P' r3H' r3b' r4i' r4K' r4L' r4W' r4S' r4E' r4P' r4H' r4b', SA (srch σ f g X n pc A) mo i' bp' → (∀ q, q < 1 → pl' q = eI (pc q)) → Q i' r1i' ia' aK' aL' aW' aS' r1E' aE' aP' aH' sn' ab' r1b' pl' bp' r2i' r2K' r2L' r2W' r2S' r2E' r2P' r2H' r2b' r3i' r3K' r3L' r3W' r3S' r3E' r3P' r3H' r3b' r4i' r4K' r4L' r4W' r4S' r4E' r4P' r4H' r4b') : w_Lives_search_1 i il r1i ia r1K aK r1L aL r1W aW r1S aS r1E aE r1P aP r1H aH sn hl gs gl ab d r1b pl bp r2i r2K r2L r2W r2S r2E r2P r2H r2b r3i r3K r3L r3W r3S r3E r3P r3H r3b r4i r4K r4L r4W r4S r4E r4P r4H r4b (eI n) Q := by
  have hU := O.u
  have hhc := O.hc
  have hA' := hA
  obtain ⟨hA1, hA2⟩ := hA'
  have h18 := N.n18 O
  have hgf := N.gf
  have run : ∀ ia aK aL aW aS aE aP aH sn ab, j_Lives_search_1_34 i il r1i ia r1K aK r1L aL r1W aW r1S aS r1E aE r1P aP r1H aH sn hl gs gl ab d r1b pl bp r2i r2K r2L r2W r2S r2E r2P r2H r2b r3i r3K r3L r3W r3S r3E r3P r3H r3b r4i r4K r4L r4W r4S r4E r4P r4H r4b (eI n) Q := fun ia aK aL aW aS aE aP aH sn ab => by
    unfold j_Lives_search_1_34
    rw [r.hd]
    have e0 : eI (g : Int) + 1 = eI ((g : Int) + 1) := by (try simp only [eI_lit, eI_neg, eI_add, eI_sub, eI_mul, eF_ap, upd_eF])
    rw [e0]
    refine lg_Lives_search_1_43 (G := Nat) (fun mu x6 r1i' r1E' r1b' => ∃ g' Y, NI σ mu g' Y n ∧ x6 = eI ((g' : Int) + 1) ∧ RowR σ Y (g' : Int) (hb σ g') r1i' r1K r1L r1W r1S r1E' r1P r1H ∧ srch σ f g X n pc A = srch σ mu g' Y n pc A ∧ (n : Int) + rm σ g' ≤ mo) (fun mu => mu) ?_ f ⟨g, X, N, rfl, r, rfl, hmo⟩
    rintro kr mu x6 r1i' r1E' r1b' ⟨g', Y, NY, rfl, rY, hE, hmo'⟩ hst
    have hgf' := NY.gf
    have h18' := NY.n18 O
    have hnb' := NY.nb
    have hbl' := hb_le O (g' : Int)
    unfold b_Lives_search_1_43
    rw [I.u]
    refine q_le (by (first | exact B31_s (by omega) (by omega) | exact B31_of _ | (constructor <;> omega))) (by (first | exact B31_s (by omega) (by omega) | exact B31_of _ | (constructor <;> omega))) (fun hend => ?_) (fun hmore => ?_)
    · have e1 : mu = 0 := by omega
      subst e1
      rw [srch] at hE
      unfold j_Lives_search_1_124
      exact V.leaf hA (by omega) (l := 1) (by omega) hpl (by decide) (fun i' bp' V' => hq i' _ _ _ _ _ _ _ _ _ _ _ _ _ _ bp' _ _ _ _ _ _ _ _ _ _ _ _ _ _ _ _ _ _ _ _ _ _ _ _ _ _ _ (by rw [hE]; exact V') hpl)
    · obtain ⟨mu', rfl⟩ : ∃ mu', mu = mu' + 1 := ⟨mu - 1, by omega⟩
      rw [srch] at hE
      refine C_holdsAt O rY I G NY.ok (by omega) NY.p0 (by omega) (by omega) (fun hp i2 b2 r2 => ?_) (fun hp i2 b2 E2 r2 => ?_)
      · (first | refine z0T ?_ | refine z0N ?_)
        rw [if_pos hp] at hE
        unfold j_Lives_search_1_124
        exact (V.u8 (x := (g' : Int) + 1) (by omega)).leaf hA (by omega) (l := 1) (by omega) hpl (by decide) (fun i' bp' V' => hq i' _ _ _ _ _ _ _ _ _ _ _ _ _ _ bp' _ _ _ _ _ _ _ _ _ _ _ _ _ _ _ _ _ _ _ _ _ _ _ _ _ _ _ (by rw [hE]; exact V') hpl)
      · (first | refine z1T ?_ | refine z1N ?_)
        rw [if_neg (by omega)] at hE
        refine R_arrive O r2 I HH (by (first | exact B31_s (by omega) (by omega) | exact B31_of _ | (constructor <;> omega))) (by omega) (fun i3 r3 => ?_)
        rw [hb_next O (by omega)] at r3
        have hadb := adN_b O (hb σ g') ((g' : Int) + 1)
        have hkc := O.kc
        have e1 : eI ((g' : Int) + 1) + 1 = eI (((g' + 1 : Nat) : Int) + 1) := by (try simp only [eI_lit, eI_neg, eI_add, eI_sub, eI_mul, eF_ap, upd_eF]); congr 1
        have e2 : ((g' + 1 : Nat) : Int) = (g' : Int) + 1 := by omega
        refine q_eq (a := adN σ (hb σ g') ((g' : Int) + 1)) (b := -1) (by (first | exact B31_s (by omega) (by omega) | exact B31_of _ | (constructor <;> omega))) (by (first | exact B31_s (by omega) (by omega) | exact B31_of _ | (constructor <;> omega))) (fun hno => ?_) (fun hadd => ?_)
        · rw [if_neg (by omega)] at hE
          rw [e1]
          have hrm := rm_s O g'
          rw [if_neg (by omega)] at hrm
          exact hst mu' _ _ _ _ (by omega) ⟨g' + 1, wrX σ Y ((g' : Int) + 1), (NY.wr O).2, rfl, by rw [e2]; exact r3, hE, by omega⟩
        · rw [if_pos (by omega), if_pos (by omega)] at hE
          have hrm := rm_s O g'
          rw [if_pos (by omega)] at hrm
          have en : eI (n : Int) + 1 = eI ((n + 1 : Nat) : Int) := by (try simp only [eI_lit, eI_neg, eI_add, eI_sub, eI_mul, eF_ap, upd_eF]); congr 1
          rw [en]
          exact C_branch_1 (gp := g' + 1) (Z := wrX σ Y ((g' : Int) + 1)) (f := mu') O hn hA (by omega) hmo2 (by have h17 := ((NY.in_ O (q := 0) (by omega) (by omega)).n18 O).2; have e17 : Y.n + 1 ≤ 18 := h17; show Y.n ≤ 17; omega) (by omega) (by omega) (fun q hq => NY.in_ O (by omega) hq) (by rw [e2]; exact r3) I G HH D GS V hpl (fun i' pl' r2i' r2K' r2L' r2W' r2S' r2E' r2P' r2H' ia' aK' aL' aW' aS' aE' aP' aH' sn' ab' r2b' bp' r3i' r3K' r3L' r3W' r3S' r3E' r3P' r3H' r3b' r4i' r4K' r4L' r4W' r4S' r4E' r4P' r4H' r4b' V' hpl' => hq i' _ ia' aK' aL' aW' aS' _ aE' aP' aH' sn' ab' _ pl' bp' r2i' r2K' r2L' r2W' r2S' r2E' r2P' r2H' r2b' r3i' r3K' r3L' r3W' r3S' r3E' r3P' r3H' r3b' r4i' r4K' r4L' r4W' r4S' r4E' r4P' r4H' r4b' (by rw [hE]; exact V') hpl')
  unfold w_Lives_search_1
  rw [V.b]
  refine q_lt (by (first | exact B31_s (by omega) (by omega) | exact B31_of _ | (constructor <;> omega))) (by (first | exact B31_s (by omega) (by omega) | exact B31_of _ | (constructor <;> omega))) (fun _ => run _ _ _ _ _ _ _ _ _ _) (fun hle => ?_)
  obtain ⟨dh, hd1, hd2⟩ := V.d
  refine C_mayBeBetter O N (b := A.1) (by omega) (by omega) (lev := 1) (by omega) r I G HH D GS V.b hd1 hd2 (fun hlb ia' k' l' w' s' e' p' h' sn' bb' => ?_) (fun ia' k' l' w' s' e' p' h' sn' bb' => ?_)
  · (first | refine z0T ?_ | refine z0N ?_)
    exact hq _ _ _ _ _ _ _ _ _ _ _ _ _ _ _ _ _ _ _ _ _ _ _ _ _ _ _ _ _ _ _ _ _ _ _ _ _ _ _ _ _ _ _ (by rw [srch_id f g X n pc hlb]; exact V) hpl
  · (first | refine z1T ?_ | refine z1N ?_)
    exact run _ _ _ _ _ _ _ _ _ _

theorem C_branch_0 {σ : Nat → Int} (O : LOk σ) {f gp n : Nat} {Z : RW} {pc : Nat → Nat} {A : AC} {mo a : Int} (hn : n = 0) (hA : ABd A) (hmo : ((n + 1 : Nat) : Int) + rm σ gp ≤ mo) (hmo2 : mo ≤ 400) (hZ : Z.n ≤ 17) (ha0 : 0 ≤ a) (ha1 : a < σ 3) (NC : ∀ q, q ≤ Z.n → NI σ f gp (Z.ins q a (ST σ a)) (n + 1)) {i il r0i pl r1i r0K r1K r0L r1L r0W r1W r0S r1S r0E r1E r0P r1P r0H r1H d ia aK aL aW aS aE aP aH sn hl gs gl ab r1b bp r2i r2K r2L r2W r2S r2E r2P r2H r2b r3i r3K r3L r3W r3S r3E r3P r3H r3b r4i r4K r4L r4W r4S r4E r4P r4H r4b : F32} (r : RowR σ Z (gp : Int) (hb σ gp) r0i r0K r0L r0W r0S r0E r0P r0H) (I : LnI σ il) (G : LnG σ gl) (HH : LnH σ hl) (D : LnK σ d) (GS : GSm σ gs) (V : SA A mo i bp) (hpl : ∀ q, q < 0 → pl q = eI (pc q)) {Q : F32 → F32 → F32 → F32 → F32 → F32 → F32 → F32 → F32 → F32 → F32 → F32 → F32 → F32 → F32 → F32 → F32 → F32 → F32 → F32 → F32 → F32 → F32 → F32 → F32 → F32 → F32 → F32 → F32 → F32 → F32 → F32 → F32 → F32 → F32 → F32 → F32 → F32 → F32 → F32 → F32 → F32 → F32 → F32 → F32 → F32 → F32 → F32 → F32 → Prop} (hq : ∀ i' pl' r1i' r1K' r1L' r1W' r1S' r1E' r1P' r1H' ia' aK' aL' aW' aS' aE' aP' aH' sn' ab' r1b' bp' r2i' r2K' r2L' r2W' r2S' r2E' r2P' r2H' r2b' r3i' r3K' r3L' r3W' r3S' r3E' r3P' r3H' r3b' r4i' r4K' r4L' r4W' r4S' r4E' r4P' r4H' r4b', SA (fd (fun q A => srch σ f gp (Z.ins q a (ST σ a)) (n + 1) (updN pc n q) A) (Z.n + 1) A) mo i' bp' → (∀ q, q < 0 → pl' q = eI (pc q)) → Q i' pl' r1i' r1K' r1L' r1W' r1S' r1E' r1P' r1H' ia' aK' aL' aW' aS' aE' aP' aH' sn' ab' r1b' bp' r2i' r2K' r2L' r2W' r2S' r2E' r2P' r2H' r2b' r3i' r3K' r3L' r3W' r3S' r3E' r3P' r3H' r3b' r4i' r4K' r4L' r4W' r4S' r4E' r4P' r4H' r4b') : w_Lives_branch_0 i il r0i pl r1i r0K r1K r0L r1L r0W r1W r0S r1S r0E r1E r0P r1P r0H r1H d ia aK aL aW aS aE aP aH sn hl gs gl ab r1b bp r2i r2K r2L r2W r2S r2E r2P r2H r2b r3i r3K r3L r3W r3S r3E r3P r3H r3b r4i r4K r4L r4W r4S r4E r4P r4H r4b (eI ((n + 1 : Nat) : Int)) (eI a) Q := by
  have hU := O.u
  have hkc := O.kc
  have hN0 := NC 0 (by omega)
  have hg0 := hN0.gf
  have hnb0 := hN0.nb
  have hng0 := hN0.ng
  have hbl0 := hb_le O (gp : Int)
  have hhc := O.hc
  unfold w_Lives_branch_0
  refine lg_Lives_branch_0_13 (G := Nat) (fun mu x5 i' pl' r1i' r1K' r1L' r1W' r1S' r1E' r1P' r1H' ia' aK' aL' aW' aS' aE' aP' aH' sn' ab' r1b' bp' r2i' r2K' r2L' r2W' r2S' r2E' r2P' r2H' r2b' r3i' r3K' r3L' r3W' r3S' r3E' r3P' r3H' r3b' r4i' r4K' r4L' r4W' r4S' r4E' r4P' r4H' r4b' => ∃ q, mu + q = Z.n + 1 ∧ x5 = eI ((q : Nat) : Int) ∧ SA (fd (fun q A => srch σ f gp (Z.ins q a (ST σ a)) (n + 1) (updN pc n q) A) q A) mo i' bp' ∧ ABd (fd (fun q A => srch σ f gp (Z.ins q a (ST σ a)) (n + 1) (updN pc n q) A) q A) ∧ ∀ q', q' < 0 → pl' q' = eI (pc q')) (fun mu => mu) ?_ (Z.n + 1) ⟨0, by omega, rfl, V, hA, hpl⟩
  rintro kr mu x5 i' pl' r1i' r1K' r1L' r1W' r1S' r1E' r1P' r1H' ia' aK' aL' aW' aS' aE' aP' aH' sn' ab' r1b' bp' r2i' r2K' r2L' r2W' r2S' r2E' r2P' r2H' r2b' r3i' r3K' r3L' r3W' r3S' r3E' r3P' r3H' r3b' r4i' r4K' r4L' r4W' r4S' r4E' r4P' r4H' r4b' ⟨q, hmu, rfl, V', B', hpl'⟩ hst
  have B2 := B'
  obtain ⟨B1, B3⟩ := B2
  unfold b_Lives_branch_0_13
  rw [r.sz]
  refine q_lt (by (first | exact B31_s (by omega) (by omega) | exact B31_of _ | (constructor <;> omega))) (by (first | exact B31_s (by omega) (by omega) | exact B31_of _ | (constructor <;> omega))) (fun hlt => ?_) (fun hle => ?_)
  · have eq : q = Z.n + 1 := by omega
    subst eq
    exact hq _ _ _ _ _ _ _ _ _ _ _ _ _ _ _ _ _ _ _ _ _ _ _ _ _ _ _ _ _ _ _ _ _ _ _ _ _ _ _ _ _ _ _ _ _ _ _ _ _ V' hpl'
  · rw [V'.m, V'.b]
    refine q_le (by (first | exact B31_s (by omega) (by omega) | exact B31_of _ | (constructor <;> omega))) (by (first | exact B31_s (by omega) (by omega) | exact B31_of _ | (constructor <;> omega))) (fun hm => ?_) (fun hm => ?_)
    · refine hq _ _ _ _ _ _ _ _ _ _ _ _ _ _ _ _ _ _ _ _ _ _ _ _ _ _ _ _ _ _ _ _ _ _ _ _ _ _ _ _ _ _ _ _ _ _ _ _ _ ?_ hpl'
      rw [fd_rest (F := (fun q A => srch σ f gp (Z.ins q a (ST σ a)) (n + 1) (updN pc n q) A)) (q := q) (k := Z.n + 1) (by omega) (fun q' h1 h2 => by
        show srch σ f gp (Z.ins q' a (ST σ a)) (n + 1) (updN pc n q') (fd (fun q A => srch σ f gp (Z.ins q a (ST σ a)) (n + 1) (updN pc n q) A) q A) = _
        exact srch_id f gp _ _ _ (LB_most O f gp _ _ (by omega)))]
      exact V'
    · refine R_copy r (by omega) (fun c1i c1K c1L c1W c1S c1E c1P c1H r1 => ?_)
      refine R_insert r1 D (by omega) (by omega) (by omega) ha0 ha1 (fun c2i c2K c2L c2W c2S c2E c2P c2H r2 => ?_)
      refine C_search_1 (n := n + 1) (pc := updN pc n q) (A := fd (fun q A => srch σ f gp (Z.ins q a (ST σ a)) (n + 1) (updN pc n q) A) q A) O (NC q (by omega)) (by omega) B' hmo hmo2 r2 I G HH D GS V' (fun q' h' => ?_) (fun i2 r1i2 ia2 aK2 aL2 aW2 aS2 r1E2 aE2 aP2 aH2 sn2 ab2 r1b2 pl2 bp2 r2i2 r2K2 r2L2 r2W2 r2S2 r2E2 r2P2 r2H2 r2b2 r3i2 r3K2 r3L2 r3W2 r3S2 r3E2 r3P2 r3H2 r3b2 r4i2 r4K2 r4L2 r4W2 r4S2 r4E2 r4P2 r4H2 r4b2 V2 hpl2 => ?_)
      · by_cases e : q' = 0
        · subst e
          have e3 : updN pc n q 0 = q := by rw [← hn, updN_s]
          rw [upd_s, e3]
        · rw [upd_n e, updN_n (by omega)]; exact hpl' q' (by omega)
      · exact hst (mu - 1) _ _ _ _ _ _ _ _ _ _ _ _ _ _ _ _ _ _ _ _ _ _ _ _ _ _ _ _ _ _ _ _ _ _ _ _ _ _ _ _ _ _ _ _ _ _ _ _ _ _ (by omega) ⟨q + 1, by omega, by (try simp only [eI_lit, eI_neg, eI_add, eI_sub, eI_mul, eF_ap, upd_eF]); congr 1, V2, srch_bd f gp _ _ _ _ (by omega) B', fun q' h' => by rw [hpl2 q' (by omega), updN_n (by omega)]⟩

theorem C_search_0 {σ : Nat → Int} (O : LOk σ) {f g n : Nat} {X : RW} {pc : Nat → Nat} {A : AC} {mo : Int} (N : NI σ f g X n) (hn : n = 0) (hA : ABd A) (hmo : (n : Int) + rm σ g ≤ mo) (hmo2 : mo ≤ 400) {i il r0i ia r0K aK r0L aL r0W aW r0S aS r0E aE r0P aP r0H aH sn hl gs gl ab d r0b pl bp r1i r1K r1L r1W r1S r1E r1P r1H r1b r2i r2K r2L r2W r2S r2E r2P r2H r2b r3i r3K r3L r3W r3S r3E r3P r3H r3b r4i r4K r4L r4W r4S r4E r4P r4H r4b : F32} (r : RowR σ X (g : Int) (hb σ g) r0i r0K r0L r0W r0S r0E r0P r0H) (I : LnI σ il) (G : LnG σ gl) (HH : LnH σ hl) (D : LnK σ d) (GS : GSm σ gs) (V : SA A mo i bp) (hpl : ∀ q, q < 0 → pl q = eI (pc q)) {Q : F32 → F32 → F32 → F32 → F32 → F32 → F32 → F32 → F32 → F32 → F32 → F32 → F32 → F32 → F32 → F32 → F32 → F32 → F32 → F32 → F32 → F32 → F32 → F32 → F32 → F32 → F32 → F32 → F32 → F32 → F32 → F32 → F32 → F32 → F32 → F32 → F32 → F32 → F32 → F32 → F32 → F32 → F32 → F32 → F32 → F32 → F32 → F32 → F32 → F32 → F32 → F32 → Prop} (hq : ∀ i' r0i' ia' aK' aL' aW' aS' r0E' aE' aP' aH' sn' ab' r0b' pl' bp' r1i' r1K' r1L' r1W' r1S' r1E' r1P' r1H' r1b' r2i' r2K' r2L' r2W' r2S' r2E' r2P' r2H' r2b' r3i' r3K' r3L' r3W' r3S' r3E' r3P' r3H' r3b' r4i' r4K' r4L' r4W' r4S' r4E' r4P' r4H' r4b', SA (srch σ f g X n pc A) mo i' bp' → (∀ q, q < 0 → pl' q = eI (pc q)) → Q i' r0i' ia' aK' aL' aW' aS' r0E' aE' aP' aH' sn' ab' r0b' pl' bp' r1i' r1K' r1L' r1W' r1S' r1E' r1P' r1H' r1b' r2i' r2K' r2L' r2W' r2S' r2E' r2P' r2H' r2b' r3i' r3K' r3L' r3W' r3S' r3E' r3P' r3H' r3b' r4i' r4K' r4L' r4W' r4S' r4E' r4P' r4H' r4b') : w_Lives_search_0 i il r0i ia r0K aK r0L aL r0W aW r0S aS r0E aE r0P aP r0H aH sn hl gs gl ab d r0b pl bp r1i r1K r1L r1W r1S r1E r1P r1H r1b r2i r2K r2L r2W r2S r2E r2P r2H r2b r3i r3K r3L r3W r3S r3E r3P r3H r3b r4i r4K r4L r4W r4S r4E r4P r4H r4b (eI n) Q := by
  have hU := O.u
  have hhc := O.hc
  have hA' := hA
  obtain ⟨hA1, hA2⟩ := hA'
  have h18 := N.n18 O
  have hgf := N.gf
  have run : ∀ ia aK aL aW aS aE aP aH sn ab, j_Lives_search_0_34 i il r0i ia r0K aK r0L aL r0W aW r0S aS r0E aE r0P aP r0H aH sn hl gs gl ab d r0b pl bp r1i r1K r1L r1W r1S r1E r1P r1H r1b r2i r2K r2L r2W r2S r2E r2P r2H r2b r3i r3K r3L r3W r3S r3E r3P r3H r3b r4i r4K r4L r4W r4S r4E r4P r4H r4b (eI n) Q := fun ia aK aL aW aS aE aP aH sn ab => by
    unfold j_Lives_search_0_34
    rw [r.hd]
    have e0 : eI (g : Int) + 1 = eI ((g : Int) + 1) := by (try simp only [eI_lit, eI_neg, eI_add, eI_sub, eI_mul, eF_ap, upd_eF])
    rw [e0]
    refine lg_Lives_search_0_43 (G := Nat) (fun mu x6 r0i' r0E' r0b' => ∃ g' Y, NI σ mu g' Y n ∧ x6 = eI ((g' : Int) + 1) ∧ RowR σ Y (g' : Int) (hb σ g') r0i' r0K r0L r0W r0S r0E' r0P r0H ∧ srch σ f g X n pc A = srch σ mu g' Y n pc A ∧ (n : Int) + rm σ g' ≤ mo) (fun mu => mu) ?_ f ⟨g, X, N, rfl, r, rfl, hmo⟩
    rintro kr mu x6 r0i' r0E' r0b' ⟨g', Y, NY, rfl, rY, hE, hmo'⟩ hst
    have hgf' := NY.gf
    have h18' := NY.n18 O
    have hnb' := NY.nb
    have hbl' := hb_le O (g' : Int)
    unfold b_Lives_search_0_43
    rw [I.u]
    refine q_le (by (first | exact B31_s (by omega) (by omega) | exact B31_of _ | (constructor <;> omega))) (by (first | exact B31_s (by omega) (by omega) | exact B31_of _ | (constructor <;> omega))) (fun hend => ?_) (fun hmore => ?_)
    · have e1 : mu = 0 := by omega
      subst e1
      rw [srch] at hE
      unfold j_Lives_search_0_124
      exact V.leaf hA (by omega) (l := 0) (by omega) hpl (by decide) (fun i' bp' V' => hq i' _ _ _ _ _ _ _ _ _ _ _ _ _ _ bp' _ _ _ _ _ _ _ _ _ _ _ _ _ _ _ _ _ _ _ _ _ _ _ _ _ _ _ _ _ _ _ _ _ _ _ _ (by rw [hE]; exact V') hpl)
    · obtain ⟨mu', rfl⟩ : ∃ mu', mu = mu' + 1 := ⟨mu - 1, by omega⟩
      rw [srch] at hE
      refine C_holdsAt O rY I G NY.ok (by omega) NY.p0 (by omega) (by omega) (fun hp i2 b2 r2 => ?_) (fun hp i2 b2 E2 r2 => ?_)
      · (first | refine z0T ?_ | refine z0N ?_)
        rw [if_pos hp] at hE
        unfold j_Lives_search_0_124
        exact (V.u8 (x := (g' : Int) + 1) (by omega)).leaf hA (by omega) (l := 0) (by omega) hpl (by decide) (fun i' bp' V' => hq i' _ _ _ _ _ _ _ _ _ _ _ _ _ _ bp' _ _ _ _ _ _ _ _ _ _ _ _ _ _ _ _ _ _ _ _ _ _ _ _ _ _ _ _ _ _ _ _ _ _ _ _ (by rw [hE]; exact V') hpl)
      · (first | refine z1T ?_ | refine z1N ?_)
        rw [if_neg (by omega)] at hE
        refine R_arrive O r2 I HH (by (first | exact B31_s (by omega) (by omega) | exact B31_of _ | (constructor <;> omega))) (by omega) (fun i3 r3 => ?_)
        rw [hb_next O (by omega)] at r3
        have hadb := adN_b O (hb σ g') ((g' : Int) + 1)
        have hkc := O.kc
        have e1 : eI ((g' : Int) + 1) + 1 = eI (((g' + 1 : Nat) : Int) + 1) := by (try simp only [eI_lit, eI_neg, eI_add, eI_sub, eI_mul, eF_ap, upd_eF]); congr 1
        have e2 : ((g' + 1 : Nat) : Int) = (g' : Int) + 1 := by omega
        refine q_eq (a := adN σ (hb σ g') ((g' : Int) + 1)) (b := -1) (by (first | exact B31_s (by omega) (by omega) | exact B31_of _ | (constructor <;> omega))) (by (first | exact B31_s (by omega) (by omega) | exact B31_of _ | (constructor <;> omega))) (fun hno => ?_) (fun hadd => ?_)
        · rw [if_neg (by omega)] at hE
          rw [e1]
          have hrm := rm_s O g'
          rw [if_neg (by omega)] at hrm
          exact hst mu' _ _ _ _ (by omega) ⟨g' + 1, wrX σ Y ((g' : Int) + 1), (NY.wr O).2, rfl, by rw [e2]; exact r3, hE, by omega⟩
        · rw [if_pos (by omega), if_pos (by omega)] at hE
          have hrm := rm_s O g'
          rw [if_pos (by omega)] at hrm
          have en : eI (n : Int) + 1 = eI ((n + 1 : Nat) : Int) := by (try simp only [eI_lit, eI_neg, eI_add, eI_sub, eI_mul, eF_ap, upd_eF]); congr 1
          rw [en]
          exact C_branch_0 (gp := g' + 1) (Z := wrX σ Y ((g' : Int) + 1)) (f := mu') O hn hA (by omega) hmo2 (by have h17 := ((NY.in_ O (q := 0) (by omega) (by omega)).n18 O).2; have e17 : Y.n + 1 ≤ 18 := h17; show Y.n ≤ 17; omega) (by omega) (by omega) (fun q hq => NY.in_ O (by omega) hq) (by rw [e2]; exact r3) I G HH D GS V hpl (fun i' pl' r1i' r1K' r1L' r1W' r1S' r1E' r1P' r1H' ia' aK' aL' aW' aS' aE' aP' aH' sn' ab' r1b' bp' r2i' r2K' r2L' r2W' r2S' r2E' r2P' r2H' r2b' r3i' r3K' r3L' r3W' r3S' r3E' r3P' r3H' r3b' r4i' r4K' r4L' r4W' r4S' r4E' r4P' r4H' r4b' V' hpl' => hq i' _ ia' aK' aL' aW' aS' _ aE' aP' aH' sn' ab' _ pl' bp' r1i' r1K' r1L' r1W' r1S' r1E' r1P' r1H' r1b' r2i' r2K' r2L' r2W' r2S' r2E' r2P' r2H' r2b' r3i' r3K' r3L' r3W' r3S' r3E' r3P' r3H' r3b' r4i' r4K' r4L' r4W' r4S' r4E' r4P' r4H' r4b' (by rw [hE]; exact V') hpl')
  unfold w_Lives_search_0
  rw [V.b]
  refine q_lt (by (first | exact B31_s (by omega) (by omega) | exact B31_of _ | (constructor <;> omega))) (by (first | exact B31_s (by omega) (by omega) | exact B31_of _ | (constructor <;> omega))) (fun _ => run _ _ _ _ _ _ _ _ _ _) (fun hle => ?_)
  obtain ⟨dh, hd1, hd2⟩ := V.d
  refine C_mayBeBetter O N (b := A.1) (by omega) (by omega) (lev := 0) (by omega) r I G HH D GS V.b hd1 hd2 (fun hlb ia' k' l' w' s' e' p' h' sn' bb' => ?_) (fun ia' k' l' w' s' e' p' h' sn' bb' => ?_)
  · (first | refine z0T ?_ | refine z0N ?_)
    exact hq _ _ _ _ _ _ _ _ _ _ _ _ _ _ _ _ _ _ _ _ _ _ _ _ _ _ _ _ _ _ _ _ _ _ _ _ _ _ _ _ _ _ _ _ _ _ _ _ _ _ _ _ (by rw [srch_id f g X n pc hlb]; exact V) hpl
  · (first | refine z1T ?_ | refine z1N ?_)
    exact run _ _ _ _ _ _ _ _ _ _
