/-! the class: lines and rows -/
abbrev F32 := Nat → Int32
abbrev QR := F32 → F32 → F32 → F32 → F32 → F32 → F32 → F32 → Prop
abbrev LnI (σ : Nat → Int) (i : F32) : Prop :=
  (i 1 = eI (σ 0)) ∧
  (i 3 = eI (σ 1)) ∧
  (i 5 = eI (σ 2)) ∧
  (i 7 = eI (σ 3)) ∧
  (i 9 = eI (σ 10)) ∧
  (i 10 = eI (σ 4)) ∧
  (i 11 = eI (σ 5)) ∧
  (i 12 = eI (σ 6)) ∧
  (i 13 = eI (σ 7)) ∧
  (i 14 = eI (σ 8)) ∧
  (i 15 = eI (σ 9))
theorem LnI.u {σ : Nat → Int} {i : F32} (h : LnI σ i) : i 1 = eI (σ 0) := h.1
theorem LnI.hc {σ : Nat → Int} {i : F32} (h : LnI σ i) : i 3 = eI (σ 1) := h.2.1
theorem LnI.lc {σ : Nat → Int} {i : F32} (h : LnI σ i) : i 5 = eI (σ 2) := h.2.2.1
theorem LnI.kc {σ : Nat → Int} {i : F32} (h : LnI σ i) : i 7 = eI (σ 3) := h.2.2.2.1
theorem LnI.fc {σ : Nat → Int} {i : F32} (h : LnI σ i) : i 9 = eI (σ 10) := h.2.2.2.2.1
theorem LnI.pull {σ : Nat → Int} {i : F32} (h : LnI σ i) : i 10 = eI (σ 4) := h.2.2.2.2.2.1
theorem LnI.eng {σ : Nat → Int} {i : F32} (h : LnI σ i) : i 11 = eI (σ 5) := h.2.2.2.2.2.2.1
theorem LnI.rub {σ : Nat → Int} {i : F32} (h : LnI σ i) : i 12 = eI (σ 6) := h.2.2.2.2.2.2.2.1
theorem LnI.sand {σ : Nat → Int} {i : F32} (h : LnI σ i) : i 13 = eI (σ 7) := h.2.2.2.2.2.2.2.2.1
theorem LnI.wear {σ : Nat → Int} {i : F32} (h : LnI σ i) : i 14 = eI (σ 8) := h.2.2.2.2.2.2.2.2.2.1
theorem LnI.walk {σ : Nat → Int} {i : F32} (h : LnI σ i) : i 15 = eI (σ 9) := h.2.2.2.2.2.2.2.2.2.2
def LnG (σ : Nat → Int) (g : F32) : Prop := ∀ j : Nat, (j : Int) < σ 0 → g j = eI (σ (11 + j))
def LnH (σ : Nat → Int) (h : F32) : Prop := ∀ k : Nat, (k : Int) < σ 1 → h (3 * k) = eI (AT σ k) ∧ h (3 * k + 1) = eI (HL σ k) ∧ h (3 * k + 2) = eI (AD σ k)
def LnO (σ : Nat → Int) (o : F32) : Prop := ∀ j : Nat, (j : Int) < 2 * σ 2 → o j = eI (σ (441 + j))
def LnK (σ : Nat → Int) (d : F32) : Prop := ∀ j : Nat, (j : Int) < 3 * σ 3 → d j = eI (σ (457 + j))
def LnF (σ : Nat → Int) (f : F32) : Prop := ∀ j : Nat, (j : Int) < σ 10 → f j = eI (σ (475 + j))
theorem L_longOf {σ : Nat → Int} {d : F32} (D : LnK σ d) {k : Int} {Q : Int32 → Prop} (h0 : 0 ≤ k) (h1 : k < σ 3) (h2 : σ 3 ≤ 6) (h : Q (eI (LG σ k))) : w_Line_longOf d (eI k) Q := by
  unfold w_Line_longOf
  (try simp only [eI_lit, eI_neg, eI_add, eI_sub, eI_mul, eF_ap, upd_eF]); refine And.intro (eI_in (by omega) (by omega) (by omega)) ?_; (try simp (disch := omega) only [eI_cl, Int.toNat_natCast])
  rw [D _ (by omega)]
  have e : 457 + (3 * k).toNat = (457 + 3 * k).toNat := by omega
  rw [e]; exact h
theorem L_weightOf {σ : Nat → Int} {d : F32} (D : LnK σ d) {k : Int} {Q : Int32 → Prop} (h0 : 0 ≤ k) (h1 : k < σ 3) (h2 : σ 3 ≤ 6) (h : Q (eI (WT σ k))) : w_Line_weightOf d (eI k) Q := by
  unfold w_Line_weightOf
  (try simp only [eI_lit, eI_neg, eI_add, eI_sub, eI_mul, eF_ap, upd_eF]); refine And.intro (eI_in (by omega) (by omega) (by omega)) ?_; (try simp (disch := omega) only [eI_cl, Int.toNat_natCast])
  rw [D _ (by omega)]
  have e : 457 + (3 * k + 1).toNat = (457 + 3 * k + 1).toNat := by omega
  rw [e]; exact h
theorem L_strengthOf {σ : Nat → Int} {d : F32} (D : LnK σ d) {k : Int} {Q : Int32 → Prop} (h0 : 0 ≤ k) (h1 : k < σ 3) (h2 : σ 3 ≤ 6) (h : Q (eI (ST σ k))) : w_Line_strengthOf d (eI k) Q := by
  unfold w_Line_strengthOf
  (try simp only [eI_lit, eI_neg, eI_add, eI_sub, eI_mul, eF_ap, upd_eF]); refine And.intro (eI_in (by omega) (by omega) (by omega)) ?_; (try simp (disch := omega) only [eI_cl, Int.toNat_natCast])
  rw [D _ (by omega)]
  have e : 457 + (3 * k + 2).toNat = (457 + 3 * k + 2).toNat := by omega
  rw [e]; exact h
theorem L_haltAt {σ : Nat → Int} {d : F32} (D : LnH σ d) {k : Nat} {Q : Int32 → Prop} (h1 : (k : Int) < σ 1) (h2 : σ 1 ≤ 10) (h : Q (eI (AT σ k))) : w_Line_haltAt d (eI k) Q := by
  unfold w_Line_haltAt
  (try simp only [eI_lit, eI_neg, eI_add, eI_sub, eI_mul, eF_ap, upd_eF]); refine And.intro (eI_in (by omega) (by omega) (by omega)) ?_; (try simp (disch := omega) only [eI_cl, Int.toNat_natCast])
  have e : (3 * (k : Int)).toNat = 3 * k := by omega
  rw [e, (D k h1).1]; exact h
theorem L_haltLong {σ : Nat → Int} {d : F32} (D : LnH σ d) {k : Nat} {Q : Int32 → Prop} (h1 : (k : Int) < σ 1) (h2 : σ 1 ≤ 10) (h : Q (eI (HL σ k))) : w_Line_haltLong d (eI k) Q := by
  unfold w_Line_haltLong
  (try simp only [eI_lit, eI_neg, eI_add, eI_sub, eI_mul, eF_ap, upd_eF]); refine And.intro (eI_in (by omega) (by omega) (by omega)) ?_; (try simp (disch := omega) only [eI_cl, Int.toNat_natCast])
  have e : (3 * (k : Int) + 1).toNat = 3 * k + 1 := by omega
  rw [e, (D k h1).2.1]; exact h
theorem L_haltAdds {σ : Nat → Int} {d : F32} (D : LnH σ d) {k : Nat} {Q : Int32 → Prop} (h1 : (k : Int) < σ 1) (h2 : σ 1 ≤ 10) (h : Q (eI (AD σ k))) : w_Line_haltAdds d (eI k) Q := by
  unfold w_Line_haltAdds
  (try simp only [eI_lit, eI_neg, eI_add, eI_sub, eI_mul, eF_ap, upd_eF]); refine And.intro (eI_in (by omega) (by omega) (by omega)) ?_; (try simp (disch := omega) only [eI_cl, Int.toNat_natCast])
  have e : (3 * (k : Int) + 2).toNat = 3 * k + 2 := by omega
  rw [e, (D k h1).2.2]; exact h
/-- the grade of a unit, as the class asks for it -/
def GC (σ : Nat → Int) (u : Int) : Int := if u < 0 ∨ σ 0 ≤ u then 0 else σ (11 + u.toNat)
theorem GC_GR {σ : Nat → Int} {u : Int} (h : u < σ 0) : GC σ u = GR σ u := by
  unfold GC GR
  by_cases h0 : u < 0
  · rw [if_pos h0, if_pos (Or.inl h0)]
  · rw [if_neg h0, if_neg (by omega)]
    have e : 11 + u.toNat = (11 + u).toNat := by omega
    rw [e]
theorem L_gradeOf {σ : Nat → Int} {i g : F32} (I : LnI σ i) (G : LnG σ g) {u : Int} {Q : Int32 → Prop} (hu : -100000 ≤ u) (hu2 : u ≤ 100000) (hU : σ 0 ≤ 400) (hU0 : 0 ≤ σ 0) (h : Q (eI (GC σ u))) : w_Line_gradeOf i g (eI u) Q := by
  unfold w_Line_gradeOf
  unfold GC at h
  rw [I.u]
  (try simp only [eI_lit, eI_neg, eI_add, eI_sub, eI_mul, eF_ap, upd_eF])
  refine q_lt (by (first | exact B31_s (by omega) (by omega) | exact B31_of _ | (constructor <;> omega))) (by (first | exact B31_s (by omega) (by omega) | exact B31_of _ | (constructor <;> omega))) (fun h1 => ?_) (fun h1 => ?_)
  · rw [if_pos (Or.inl h1)] at h; exact h
  · refine q_lt (by (first | exact B31_s (by omega) (by omega) | exact B31_of _ | (constructor <;> omega))) (by (first | exact B31_s (by omega) (by omega) | exact B31_of _ | (constructor <;> omega))) (fun h2 => ?_) (fun h2 => ?_)
    · refine And.intro (eI_in (by omega) (by omega) (by omega)) ?_; (try simp (disch := omega) only [eI_cl, Int.toNat_natCast])
      rw [G _ (by omega)]
      rw [if_neg (by omega)] at h
      exact h
    · rw [if_pos (Or.inr h2)] at h; exact h
theorem L_dragOf {σ : Nat → Int} {i g : F32} (I : LnI σ i) (G : LnG σ g) {a u : Int} {Q : Int32 → Prop} (hu : -100000 ≤ u) (hu2 : u ≤ 100000) (hU : σ 0 ≤ 400) (hU0 : 0 ≤ σ 0) (h : Q (eI (a * (GC σ u + σ 6)))) : w_Line_dragOf i g (eI a) (eI u) Q := by
  unfold w_Line_dragOf
  refine L_gradeOf I G hu hu2 hU hU0 ?_
  rw [I.rub]; (try simp only [eI_lit, eI_neg, eI_add, eI_sub, eI_mul, eF_ap, upd_eF]); exact h
/-! rows -/
abbrev RW := Nat × (Nat → Int) × (Nat → Int) × (Nat → Int) × (Nat → Int) × (Nat → Int)
abbrev RW.n (X : RW) : Nat := X.1
abbrev RW.k (X : RW) : Nat → Int := X.2.1
abbrev RW.s (X : RW) : Nat → Int := X.2.2.1
abbrev RW.w (X : RW) : Nat → Int := X.2.2.2.1
abbrev RW.p (X : RW) : Nat → Int := X.2.2.2.2.1
abbrev RW.h (X : RW) : Nat → Int := X.2.2.2.2.2
def insF {α : Type} (f : Nat → α) (p : Nat) (v : α) : Nat → α := fun j => if j < p then f j else if j = p then v else f (j - 1)
def RW.ins (X : RW) (p : Nat) (k s : Int) : RW := ⟨X.n + 1, insF X.k p k, insF X.s p s, insF X.w p 0, insF X.p p 0, insF X.h p 0⟩
def mkX (σ : Nat → Int) (n : Nat) (k : Nat → Int) : RW := ⟨n, k, fun j => ST σ (k j), fun _ => 0, fun _ => 0, fun _ => 0⟩
abbrev RowR (σ : Nat → Int) (X : RW) (head : Int) (nh : Nat) (i K L W S E P H : F32) : Prop :=
  (i 8 = eI X.n) ∧
  (i 9 = eI (sm (fun j => LG σ (X.k j)) X.n)) ∧
  (i 10 = eI head) ∧
  (i 11 = eI nh) ∧
  (∀ j, j < X.n → K j = eI (X.k j)) ∧
  (∀ j, j < X.n → L j = eI (LG σ (X.k j))) ∧
  (∀ j, j < X.n → W j = eI (WT σ (X.k j))) ∧
  (∀ j, j < X.n → S j = eI (X.s j)) ∧
  (∀ j, j < X.n → E j = eI (X.w j)) ∧
  (∀ j, j < X.n → P j = eI (X.p j)) ∧
  (∀ j, j < X.n → H j = eI (X.h j))
theorem RowR.sz {σ : Nat → Int} {X : RW} {head : Int} {nh : Nat} {i K L W S E P H : F32} (h : RowR σ X head nh i K L W S E P H) : i 8 = eI X.n := h.1
theorem RowR.tot {σ : Nat → Int} {X : RW} {head : Int} {nh : Nat} {i K L W S E P H : F32} (h : RowR σ X head nh i K L W S E P H) : i 9 = eI (sm (fun j => LG σ (X.k j)) X.n) := h.2.1
theorem RowR.hd {σ : Nat → Int} {X : RW} {head : Int} {nh : Nat} {i K L W S E P H : F32} (h : RowR σ X head nh i K L W S E P H) : i 10 = eI head := h.2.2.1
theorem RowR.nx {σ : Nat → Int} {X : RW} {head : Int} {nh : Nat} {i K L W S E P H : F32} (h : RowR σ X head nh i K L W S E P H) : i 11 = eI nh := h.2.2.2.1
theorem RowR.k {σ : Nat → Int} {X : RW} {head : Int} {nh : Nat} {i K L W S E P H : F32} (h : RowR σ X head nh i K L W S E P H) : ∀ j, j < X.n → K j = eI (X.k j) := h.2.2.2.2.1
theorem RowR.l {σ : Nat → Int} {X : RW} {head : Int} {nh : Nat} {i K L W S E P H : F32} (h : RowR σ X head nh i K L W S E P H) : ∀ j, j < X.n → L j = eI (LG σ (X.k j)) := h.2.2.2.2.2.1
theorem RowR.w {σ : Nat → Int} {X : RW} {head : Int} {nh : Nat} {i K L W S E P H : F32} (h : RowR σ X head nh i K L W S E P H) : ∀ j, j < X.n → W j = eI (WT σ (X.k j)) := h.2.2.2.2.2.2.1
theorem RowR.s {σ : Nat → Int} {X : RW} {head : Int} {nh : Nat} {i K L W S E P H : F32} (h : RowR σ X head nh i K L W S E P H) : ∀ j, j < X.n → S j = eI (X.s j) := h.2.2.2.2.2.2.2.1
theorem RowR.e {σ : Nat → Int} {X : RW} {head : Int} {nh : Nat} {i K L W S E P H : F32} (h : RowR σ X head nh i K L W S E P H) : ∀ j, j < X.n → E j = eI (X.w j) := h.2.2.2.2.2.2.2.2.1
theorem RowR.p {σ : Nat → Int} {X : RW} {head : Int} {nh : Nat} {i K L W S E P H : F32} (h : RowR σ X head nh i K L W S E P H) : ∀ j, j < X.n → P j = eI (X.p j) := h.2.2.2.2.2.2.2.2.2.1
theorem RowR.h {σ : Nat → Int} {X : RW} {head : Int} {nh : Nat} {i K L W S E P H : F32} (h : RowR σ X head nh i K L W S E P H) : ∀ j, j < X.n → H j = eI (X.h j) := h.2.2.2.2.2.2.2.2.2.2
def RWeq (X Y : RW) : Prop := X.n = Y.n ∧ ∀ j, j < X.n → X.k j = Y.k j ∧ X.s j = Y.s j ∧ X.w j = Y.w j ∧ X.p j = Y.p j ∧ X.h j = Y.h j
theorem RowR.congr {σ X Y head nh i K L W S E P H} (h : RWeq X Y) (r : RowR σ X head nh i K L W S E P H) : RowR σ Y head nh i K L W S E P H := by
  obtain ⟨hn, hj⟩ := h
  refine ⟨hn ▸ r.sz, ?_, r.hd, r.nx, ?_, ?_, ?_, ?_, ?_, ?_, ?_⟩
  · rw [r.tot, ← hn, sm_congr (fun j hjn => by rw [(hj j hjn).1])]
  all_goals intro j hjn; have hjn' : j < X.n := by omega
  · rw [r.k j hjn', (hj j hjn').1]
  · rw [r.l j hjn', (hj j hjn').1]
  · rw [r.w j hjn', (hj j hjn').1]
  · rw [r.s j hjn', (hj j hjn').2.1]
  · rw [r.e j hjn', (hj j hjn').2.2.1]
  · rw [r.p j hjn', (hj j hjn').2.2.2.1]
  · rw [r.h j hjn', (hj j hjn').2.2.2.2]
theorem insF_lt {α : Type} {f : Nat → α} {p j : Nat} {v : α} (h : j < p) : insF f p v j = f j := by simp [insF, h]
theorem insF_eq {α : Type} {f : Nat → α} {p : Nat} {v : α} : insF f p v p = v := by simp [insF]
theorem insF_gt {α : Type} {f : Nat → α} {p j : Nat} {v : α} (h : p < j) : insF f p v j = f (j - 1) := by
  unfold insF
  rw [if_neg (by omega), if_neg (by omega)]
theorem sm_ins {f : Nat → Int} {p : Nat} {v : Int} : ∀ {n : Nat}, p ≤ n → sm (insF f p v) (n + 1) = sm f n + v
  | n, h => by
    by_cases hp : p = n
    · subst hp
      rw [sm, insF_eq, sm_congr (fun j hj => insF_lt hj)]
    · cases n with
      | zero => omega
      | succ n =>
        rw [sm, sm_ins (n := n) (by omega), insF_gt (by omega)]
        show _ = sm f n + f n + v
        have : n + 1 - 1 = n := by omega
        rw [this]; omega
theorem insF_map {α β : Type} (g : α → β) (f : Nat → α) (p : Nat) (v : α) (j : Nat) : g (insF f p v j) = insF (fun j => g (f j)) p (g v) j := by
  unfold insF
  split
  · rfl
  · split <;> rfl
theorem R_openPlace {i r : F32} {n p : Nat} {Q : F32 → Prop} (hi : i 8 = eI n) (hn : n < 20) (hp : p ≤ n) (hq : ∀ r', (∀ j, j ≤ n → r' j = insF r p 0 j) → Q r') : w_Row_openPlace i r (eI p) Q := by
  unfold w_Row_openPlace
  rw [hi]
  refine lg_Row_openPlace_5 (G := Nat) (fun g x r' => p ≤ g ∧ g ≤ n ∧ x = eI g ∧ (∀ j, j ≤ g → r' j = r j) ∧ ∀ j, g < j → j ≤ n → r' j = r (j - 1)) (fun g => g) ?_ n ⟨hp, by omega, rfl, fun j _ => rfl, by intro j; omega⟩
  rintro kr g x r' ⟨h1, h2, rfl, h3, h4⟩ hs
  unfold b_Row_openPlace_5
  (try simp only [eI_lit, eI_neg, eI_add, eI_sub, eI_mul, eF_ap, upd_eF])
  refine q_le (by (first | exact B31_s (by omega) (by omega) | exact B31_of _ | (constructor <;> omega))) (by (first | exact B31_s (by omega) (by omega) | exact B31_of _ | (constructor <;> omega))) (fun h => ?_) (fun h => ?_)
  · refine And.intro (eI_in (by omega) (by omega) (by omega)) ?_; (try simp (disch := omega) only [eI_cl, Int.toNat_natCast])
    refine hq _ (fun j hj => ?_)
    have hg : g = p := by omega
    subst hg
    by_cases hjg : j = g
    · subst hjg; rw [upd_s, insF_eq]; rfl
    · rw [upd_n hjg]
      by_cases hlt : j < g
      · rw [insF_lt hlt]; exact h3 j (by omega)
      · rw [insF_gt (by omega)]; exact h4 j (by omega) hj
  · refine And.intro (eI_in (by omega) (by omega) (by omega)) ?_; refine And.intro (eI_in (by omega) (by omega) (by omega)) ?_; (try simp (disch := omega) only [eI_cl, Int.toNat_natCast])
    have e : ((g : Int) - 1).toNat = g - 1 := by omega
    rw [e]
    refine hs (g - 1) _ _ (by omega) ⟨by omega, by omega, by congr 1; omega, fun j hj => ?_, fun j hj hjn => ?_⟩
    · rw [upd_n (by omega)]; exact h3 j (by omega)
    · by_cases hjg : j = g
      · subst hjg; rw [upd_s, h3 _ (by omega)]
      · rw [upd_n hjg]; exact h4 j (by omega) hjn
theorem R_ins1 {r r' : F32} {f : Nat → Int} {n p : Nat} {v : Int} {x : Int32} (hr : ∀ j, j < n → r j = eI (f j)) (hp : p ≤ n) (h : ∀ j, j ≤ n → r' j = insF r p 0 j) (hx : x = eI v) : ∀ j, j < n + 1 → upd r' p x j = eI (insF f p v j) := by
  intro j hj
  subst hx
  by_cases hjp : j = p
  · subst hjp; rw [upd_s, insF_eq]
  · rw [upd_n hjp, h j (by omega)]
    by_cases hlt : j < p
    · rw [insF_lt hlt, insF_lt hlt]; exact hr j (by omega)
    · rw [insF_gt (by omega), insF_gt (by omega)]; exact hr (j - 1) (by omega)
theorem R_ins0 {r r' : F32} {f : Nat → Int} {n p : Nat} (hr : ∀ j, j < n → r j = eI (f j)) (hp : p ≤ n) (h : ∀ j, j ≤ n → r' j = insF r p 0 j) : ∀ j, j < n + 1 → r' j = eI (insF f p 0 j) := by
  intro j hj
  rw [h j (by omega)]
  by_cases hjp : j = p
  · subst hjp; rw [insF_eq, insF_eq]; rfl
  · by_cases hlt : j < p
    · rw [insF_lt hlt, insF_lt hlt]; exact hr j (by omega)
    · rw [insF_gt (by omega), insF_gt (by omega)]; exact hr (j - 1) (by omega)
theorem R_insert {σ X head nh i K L W S E P H} (r : RowR σ X head nh i K L W S E P H) {d : F32} (D : LnK σ d) (h6 : σ 3 ≤ 6) {p : Nat} {k : Int} (hn : X.n < 20) (hp : p ≤ X.n) (hk0 : 0 ≤ k) (hk1 : k < σ 3) {Q : QR} (hq : ∀ i' K' L' W' S' E' P' H', RowR σ (X.ins p k (ST σ k)) head nh i' K' L' W' S' E' P' H' → Q i' K' L' W' S' E' P' H') : w_Row_insert i K L W S E P H d (eI p) (eI k) Q := by
  unfold w_Row_insert
  rw [r.sz]
  (try simp only [eI_lit, eI_neg, eI_add, eI_sub, eI_mul, eF_ap, upd_eF])
  refine q_le (by (first | exact B31_s (by omega) (by omega) | exact B31_of _ | (constructor <;> omega))) (by (first | exact B31_s (by omega) (by omega) | exact B31_of _ | (constructor <;> omega))) (fun h => by omega) (fun _ => ?_)
  refine q_lt (by (first | exact B31_s (by omega) (by omega) | exact B31_of _ | (constructor <;> omega))) (by (first | exact B31_s (by omega) (by omega) | exact B31_of _ | (constructor <;> omega))) (fun h => by omega) (fun _ => ?_)
  refine q_le (by (first | exact B31_s (by omega) (by omega) | exact B31_of _ | (constructor <;> omega))) (by (first | exact B31_s (by omega) (by omega) | exact B31_of _ | (constructor <;> omega))) (fun _ => ?_) (fun h => by omega)
  refine R_openPlace r.sz hn hp (fun K' hK => ?_)
  refine R_openPlace r.sz hn hp (fun L' hL => ?_)
  refine R_openPlace r.sz hn hp (fun W' hW => ?_)
  refine R_openPlace r.sz hn hp (fun S' hS => ?_)
  refine R_openPlace r.sz hn hp (fun E' hE => ?_)
  refine R_openPlace r.sz hn hp (fun P' hP => ?_)
  refine R_openPlace r.sz hn hp (fun H' hH => ?_)
  refine And.intro (eI_in (by omega) (by omega) (by omega)) ?_
  refine L_longOf D hk0 hk1 h6 ?_
  refine And.intro (eI_in (by omega) (by omega) (by omega)) ?_
  refine L_weightOf D hk0 hk1 h6 ?_
  refine And.intro (eI_in (by omega) (by omega) (by omega)) ?_
  refine L_strengthOf D hk0 hk1 h6 ?_
  refine And.intro (eI_in (by omega) (by omega) (by omega)) ?_; refine And.intro (eI_in (by omega) (by omega) (by omega)) ?_; (try simp (disch := omega) only [eI_cl, Int.toNat_natCast])
  refine hq _ _ _ _ _ _ _ _ ⟨?_, ?_, ?_, ?_, ?_, ?_, ?_, ?_, ?_, ?_, ?_⟩
  · rw [upd_n (by omega), upd_s]; rfl
  · rw [upd_s, upd_n (by omega), upd_s, r.tot]
    (try simp only [eI_lit, eI_neg, eI_add, eI_sub, eI_mul, eF_ap, upd_eF])
    show _ = eI (sm (fun j => LG σ (insF X.k p k j)) (X.n + 1))
    rw [sm_congr (fun j _ => insF_map (LG σ) X.k p k j), sm_ins hp]
  · rw [upd_n (by omega), upd_n (by omega)]; exact r.hd
  · rw [upd_n (by omega), upd_n (by omega)]; exact r.nx
  · exact R_ins1 r.k hp hK rfl
  · intro j hj
    show _ = eI (LG σ (insF X.k p k j))
    rw [insF_map (LG σ)]
    exact R_ins1 r.l hp hL rfl j hj
  · intro j hj
    show _ = eI (WT σ (insF X.k p k j))
    rw [insF_map (WT σ)]
    exact R_ins1 r.w hp hW rfl j hj
  · exact R_ins1 r.s hp hS rfl
  · exact R_ins0 r.e hp hE
  · exact R_ins0 r.p hp hP
  · exact R_ins0 r.h hp hH
/-- nextHalt and the row behind arrive and takeOn -/
def nhN (σ : Nat → Int) (nh : Nat) (head : Int) : Nat := if (nh : Int) < σ 1 ∧ AT σ nh = head then nh + 1 else nh
def adN (σ : Nat → Int) (nh : Nat) (head : Int) : Int := if (nh : Int) < σ 1 ∧ AT σ nh = head then AD σ nh else -1
def tkX (σ : Nat → Int) (X : RW) (nh : Nat) (head : Int) : RW := if 0 ≤ adN σ nh head then X.ins X.n (adN σ nh head) (ST σ (adN σ nh head)) else X
theorem RowR.next {σ X head nh i K L W S E P H} (r : RowR σ X head nh i K L W S E P H) (m : Nat) : RowR σ X head m (upd i 11 (eI m)) K L W S E P H :=
  ⟨by rw [upd_n (by omega)]; exact r.sz, by rw [upd_n (by omega)]; exact r.tot, by rw [upd_n (by omega)]; exact r.hd, by rw [upd_s], r.k, r.l, r.w, r.s, r.e, r.p, r.h⟩
theorem RowR.head {σ X head nh i K L W S E P H} (r : RowR σ X head nh i K L W S E P H) (m : Int) : RowR σ X m nh (upd i 10 (eI m)) K L W S E P H :=
  ⟨by rw [upd_n (by omega)]; exact r.sz, by rw [upd_n (by omega)]; exact r.tot, by rw [upd_s], by rw [upd_n (by omega)]; exact r.nx, r.k, r.l, r.w, r.s, r.e, r.p, r.h⟩
theorem R_arrive {σ} (O : LOk σ) {X head nh i K L W S E P H} (r : RowR σ X head nh i K L W S E P H) {il hl : F32} (I : LnI σ il) (HH : LnH σ hl) (hh : B31 head) (hnh : (nh : Int) ≤ σ 1) {Q : Int32 → F32 → Prop} (hq : ∀ i', RowR σ X head (nhN σ nh head) i' K L W S E P H → Q (eI (adN σ nh head)) i') : w_Row_arrive i il hl Q := by
  have hhc := O.hc
  unfold w_Row_arrive
  unfold nhN adN at hq
  rw [I.hc, r.nx, r.hd]
  (try simp only [eI_lit, eI_neg, eI_add, eI_sub, eI_mul, eF_ap, upd_eF])
  refine q_le (by (first | exact B31_s (by omega) (by omega) | exact B31_of _ | (constructor <;> omega))) (by (first | exact B31_s (by omega) (by omega) | exact B31_of _ | (constructor <;> omega))) (fun h => ?_) (fun h => ?_)
  · rw [if_neg (by omega), if_neg (by omega)] at hq; exact hq i r
  · have ha := O.at_ nh (by omega)
    have hu := O.u
    refine L_haltAt HH (by omega) (by omega) ?_
    refine q_eq (by (first | exact B31_s (by omega) (by omega) | exact B31_of _ | (constructor <;> omega))) hh (fun h2 => ?_) (fun h2 => ?_)
    · rw [upd_s]
      (try simp only [eI_lit, eI_neg, eI_add, eI_sub, eI_mul, eF_ap, upd_eF])
      have e : (nh : Int) + 1 - 1 = nh := by omega
      rw [e]
      refine L_haltAdds HH (by omega) (by omega) ?_
      rw [if_pos ⟨h, h2⟩, if_pos ⟨h, h2⟩] at hq
      exact hq _ (r.next (nh + 1))
    · rw [if_neg (by omega), if_neg (by omega)] at hq
      exact hq i r
theorem adN_b {σ} (O : LOk σ) (nh head) : -1 ≤ adN σ nh head ∧ adN σ nh head < max (σ 3) 0 := by
  unfold adN
  split
  · rename_i h; have := O.ad nh h.1; omega
  · omega
theorem nhN_le {σ : Nat → Int} {nh : Nat} {head : Int} (h : (nh : Int) ≤ σ 1) : (nhN σ nh head : Int) ≤ σ 1 := by
  unfold nhN
  split <;> omega
theorem R_takeOn {σ} (O : LOk σ) {X head nh i K L W S E P H} (r : RowR σ X head nh i K L W S E P H) {il hl d : F32} (I : LnI σ il) (HH : LnH σ hl) (D : LnK σ d) (hh : B31 head) (hnh : (nh : Int) ≤ σ 1) (hn : X.n < 20) {Q : QR} (hq : ∀ i' K' L' W' S' E' P' H', RowR σ (tkX σ X nh head) head (nhN σ nh head) i' K' L' W' S' E' P' H' → Q i' K' L' W' S' E' P' H') : w_Row_takeOn i il hl K L W S E P H d Q := by
  have hkc := O.kc
  have hb := adN_b O nh head
  unfold w_Row_takeOn
  refine R_arrive O r I HH hh hnh (fun i' r' => ?_)
  unfold tkX at hq
  (try simp only [eI_lit, eI_neg, eI_add, eI_sub, eI_mul, eF_ap, upd_eF])
  refine q_eq (by (first | exact B31_s (by omega) (by omega) | exact B31_of _ | (constructor <;> omega))) (by (first | exact B31_s (by omega) (by omega) | exact B31_of _ | (constructor <;> omega))) (fun h => ?_) (fun h => ?_)
  · rw [if_neg (by omega)] at hq; exact hq _ _ _ _ _ _ _ _ r'
  · rw [if_pos (by omega)] at hq
    rw [r'.sz]
    exact R_insert r' D (by omega) hn (Nat.le_refl _) (by omega) (by omega) hq
