/-! longest of the class: nodes -/
theorem NI.wr {σ : Nat → Int} (O : LOk σ) {f g n : Nat} {X : RW} (N : NI σ (f + 1) g X n) : (∀ i, i < X.n → 0 ≤ (wrX σ X ((g : Int) + 1)).w i ∧ (wrX σ X ((g : Int) + 1)).w i ≤ 70000 * ((g + 1 : Nat) : Int)) ∧ NI σ f (g + 1) (wrX σ X ((g : Int) + 1)) n := by
  have hU := O.u
  have hgf := N.gf
  have h18 := (N.n18 O).2
  have hle : hb σ g ≤ hb σ ((g + 1 : Nat) : Int) := hb_mono O (by omega)
  have hnb := N.nb
  have hw : ∀ i, i < X.n → 0 ≤ (wrX σ X ((g : Int) + 1)).w i ∧ (wrX σ X ((g : Int) + 1)).w i ≤ 70000 * ((g + 1 : Nat) : Int) := fun i hi => by
    have ew : (wrX σ X ((g : Int) + 1)).w i = X.w i + ps (br σ X.k X.n ((g : Int) + 1) i) := by
      show (if i < X.n then X.w i + ps (br σ X.k X.n ((g : Int) + 1) i) else X.w i) = _
      rw [if_pos hi]
    have hbb := br_bd O N.ok h18 (h := (g : Int) + 1) (by omega) (j := i) (by omega)
    have hps := ps_bd hbb.1 hbb.2
    have hwb := N.wb i hi
    rw [ew, hps]
    omega
  have hng := N.ng
  exact ⟨hw, by omega, by omega, by omega, N.nx, N.ok, N.p0, hw, N.sb⟩
theorem NI.in_ {σ : Nat → Int} (O : LOk σ) {f g n : Nat} {X : RW} (N : NI σ (f + 1) g X n) (ha : 0 ≤ adN σ (hb σ g) ((g : Int) + 1)) {q : Nat} (hq : q ≤ X.n) : NI σ f (g + 1) ((wrX σ X ((g : Int) + 1)).ins q (adN σ (hb σ g) ((g : Int) + 1)) (ST σ (adN σ (hb σ g) ((g : Int) + 1)))) (n + 1) := by
  obtain ⟨hw, N2⟩ := N.wr O
  obtain ⟨c1, c2, c3, c4⟩ := adN_hb O (by omega) ha
  have hadb := O.ad (hb σ g) c1
  have hnb := N.nb
  have hnx := N.nx
  have e1 : ((g + 1 : Nat) : Int) = (g : Int) + 1 := by omega
  have hk3 : adN σ (hb σ g) ((g : Int) + 1) < σ 3 := by rw [c3]; exact hadb.2
  have hst := (O.kd _ ha hk3).2.2
  generalize adN σ (hb σ g) ((g : Int) + 1) = a at *
  have hng := N.ng
  refine ⟨N2.gf, by omega, by rw [e1, c4]; omega, by show X.n + 1 = _; omega, KOk.ins (X := wrX σ X ((g : Int) + 1)) N.ok hq ha hk3, ins_p (X := wrX σ X ((g : Int) + 1)) hq N.p0, fun i hi => ?_, fun i hi => ?_⟩
  · have hi' : i < X.n + 1 := hi
    show 0 ≤ insF (wrX σ X ((g : Int) + 1)).w q 0 i ∧ insF (wrX σ X ((g : Int) + 1)).w q 0 i ≤ _
    rcases Nat.lt_trichotomy i q with h | h | h
    · rw [insF_lt h]; exact hw i (by omega)
    · subst h; rw [insF_eq]; omega
    · rw [insF_gt h]; exact hw (i - 1) (by omega)
  · have hi' : i < X.n + 1 := hi
    show 1 ≤ insF X.s q (ST σ a) i ∧ insF X.s q (ST σ a) i ≤ 999
    rcases Nat.lt_trichotomy i q with h | h | h
    · rw [insF_lt h]; exact N.sb i (by omega)
    · subst h; rw [insF_eq]; exact hst
    · rw [insF_gt h]; exact N.sb (i - 1) (by omega)
def SA (A : AC) (mo : Int) (i bp : F32) : Prop :=
  (i 4 = eI A.1) ∧
  (0 ≤ A.1 → i 3 = eI (mn4 A.1)) ∧
  (i 5 = eI mo) ∧
  (∃ dh : Int, (-1 ≤ dh ∧ dh ≤ 400) ∧ i 8 = eI dh) ∧
  (∀ q : Nat, (q : Int) < A.1 → q < 4 → bp q = eI (A.2 q))
theorem SA.b {A : AC} {mo : Int} {i bp : F32} (h : SA A mo i bp) : i 4 = eI A.1 := h.1
theorem SA.c {A : AC} {mo : Int} {i bp : F32} (h : SA A mo i bp) : 0 ≤ A.1 → i 3 = eI (mn4 A.1) := h.2.1
theorem SA.m {A : AC} {mo : Int} {i bp : F32} (h : SA A mo i bp) : i 5 = eI mo := h.2.2.1
theorem SA.d {A : AC} {mo : Int} {i bp : F32} (h : SA A mo i bp) : ∃ dh : Int, (-1 ≤ dh ∧ dh ≤ 400) ∧ i 8 = eI dh := h.2.2.2.1
theorem SA.p {A : AC} {mo : Int} {i bp : F32} (h : SA A mo i bp) : ∀ q : Nat, (q : Int) < A.1 → q < 4 → bp q = eI (A.2 q) := h.2.2.2.2
theorem SA.u8 {A : AC} {mo : Int} {i bp : F32} (V : SA A mo i bp) {x : Int} (hx : -1 ≤ x ∧ x ≤ 400) : SA A mo (upd i 8 (eI x)) bp :=
  ⟨by rw [upd_n (by omega)]; exact V.b, by rw [upd_n (by omega)]; exact V.c, by rw [upd_n (by omega)]; exact V.m, ⟨x, hx, upd_s⟩, V.p⟩
theorem SA.leaf {A : AC} {mo : Int} {i bp pl : F32} {n l : Nat} {pc : Nat → Nat} (V : SA A mo i bp) (hA : ABd A) (hn : n ≤ 400) (hl : l = min n 4) (hpl : ∀ q, q < l → pl q = eI (pc q)) {y : Int32} (hy : y = eI ((l : Nat) : Int)) {Q : F32 → F32 → Prop} (hq : ∀ i' bp', SA (lfA n pc A) mo i' bp' → Q i' bp') : ((eI (n : Int) ≤ i 4) → Q i bp) ∧ ((¬ (eI (n : Int) ≤ i 4)) → Q (upd (upd i 4 (eI (n : Int))) 3 y) (va_cpy pl bp 0 0 l)) := by
  obtain ⟨hA1, hA2⟩ := hA
  unfold lfA at hq
  rw [V.b]
  refine q_le (by (first | exact B31_s (by omega) (by omega) | exact B31_of _ | (constructor <;> omega))) (by (first | exact B31_s (by omega) (by omega) | exact B31_of _ | (constructor <;> omega))) (fun h => ?_) (fun h => ?_)
  · rw [if_neg (by omega)] at hq; exact hq _ _ V
  · rw [if_pos h] at hq
    obtain ⟨dh, h1, h2⟩ := V.d
    refine hq _ _ ⟨by rw [upd_n (by omega), upd_s], fun _ => ?_, by rw [upd_n (by omega), upd_n (by omega)]; exact V.m, ⟨dh, h1, by rw [upd_n (by omega), upd_n (by omega)]; exact h2⟩, fun q h3 h4 => ?_⟩
    · rw [upd_s, hy]
      show eI ((l : Nat) : Int) = eI (mn4 (n : Int))
      unfold mn4
      split
      · congr 1; omega
      · congr 1; omega
    · have h3' : (q : Int) < (n : Int) := h3
      have hlq : q < l := by omega
      rw [cpy_lt hlq]; exact hpl q hlq
theorem fd_rest {α : Type} {F : Nat → α → α} {A : α} {q k : Nat} (hqk : q ≤ k) (h : ∀ q', q ≤ q' → q' < k → F q' (fd F q A) = fd F q A) : fd F k A = fd F q A := by
  have key : ∀ d, q + d ≤ k → fd F (q + d) A = fd F q A := by
    intro d
    induction d with
    | zero => intro _; rfl
    | succ d ih =>
      intro hd
      show F (q + d) (fd F (q + d) A) = _
      rw [ih (by omega)]
      exact h (q + d) (by omega) (by omega)
  have e : k = q + (k - q) := by omega
  rw [e]; exact key (k - q) (by omega)
