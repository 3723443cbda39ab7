/-! the next token, by the text -/
def cso (k : Nat) : Int := if k = 0 then 5 else if k = 5 then 4 else if k = 4 then 0 else k
def rso (e : TXX) (k : Nat) : Int := if k = 0 then (if e.2.1 ≤ e.2.2 then 0 else 4) else if k = 5 then 3 else k
def CRd (e : TXX) (p : Nat) (i : F32) : Prop :=
  (i 1 = eI e.2.1) ∧
  (i 2 = eI e.2.2) ∧
  (i 3 = eI p) ∧
  (p ≤ e.2.1) ∧
  (i 8 = 0)
theorem CRd.n {e : TXX} {p : Nat} {i : F32} (h : CRd e p i) : i 1 = eI e.2.1 := h.1
theorem CRd.l {e : TXX} {p : Nat} {i : F32} (h : CRd e p i) : i 2 = eI e.2.2 := h.2.1
theorem CRd.p {e : TXX} {p : Nat} {i : F32} (h : CRd e p i) : i 3 = eI p := h.2.2.1
theorem CRd.le {e : TXX} {p : Nat} {i : F32} (h : CRd e p i) : p ≤ e.2.1 := h.2.2.2.1
theorem CRd.f {e : TXX} {p : Nat} {i : F32} (h : CRd e p i) : i 8 = 0 := h.2.2.2.2
def CLd (e : TXX) (p : Nat) (i : F32) (j : Nat → Int64) : Prop :=
  (i 1 = eI e.2.1) ∧
  (i 2 = eI e.2.2) ∧
  (i 5 = eI (oP e p)) ∧
  (i 4 = eI (cso (oK e p))) ∧
  (oK e p ≠ 0 → oK e p ≠ 4 → i 3 = eI (oX e p)) ∧
  (oK e p = 1 → j 7 = eJ (oL e p)) ∧
  (oK e p = 2 → i 6 = eI (oV e p)) ∧
  (i 8 = 0)
theorem CLd.n {e : TXX} {p : Nat} {i : F32} {j : Nat → Int64} (h : CLd e p i j) : i 1 = eI e.2.1 := h.1
theorem CLd.l {e : TXX} {p : Nat} {i : F32} {j : Nat → Int64} (h : CLd e p i j) : i 2 = eI e.2.2 := h.2.1
theorem CLd.pl {e : TXX} {p : Nat} {i : F32} {j : Nat → Int64} (h : CLd e p i j) : i 5 = eI (oP e p) := h.2.2.1
theorem CLd.s {e : TXX} {p : Nat} {i : F32} {j : Nat → Int64} (h : CLd e p i j) : i 4 = eI (cso (oK e p)) := h.2.2.2.1
theorem CLd.x {e : TXX} {p : Nat} {i : F32} {j : Nat → Int64} (h : CLd e p i j) : oK e p ≠ 0 → oK e p ≠ 4 → i 3 = eI (oX e p) := h.2.2.2.2.1
theorem CLd.w {e : TXX} {p : Nat} {i : F32} {j : Nat → Int64} (h : CLd e p i j) : oK e p = 1 → j 7 = eJ (oL e p) := h.2.2.2.2.2.1
theorem CLd.v {e : TXX} {p : Nat} {i : F32} {j : Nat → Int64} (h : CLd e p i j) : oK e p = 2 → i 6 = eI (oV e p) := h.2.2.2.2.2.2.1
theorem CLd.f {e : TXX} {p : Nat} {i : F32} {j : Nat → Int64} (h : CLd e p i j) : i 8 = 0 := h.2.2.2.2.2.2.2
theorem CLd.r {e : TXX} {p : Nat} {i : F32} {j : Nat → Int64} (h : CLd e p i j) (h0 : oK e p ≠ 0) (h4 : oK e p ≠ 4) : CRd e (oX e p) i := ⟨h.n, h.l, h.x h0 h4, oX_le h0, h.f⟩
theorem C_adv {e : TXX} {p : Nat} (X : TK e) {i t : F32} {j : Nat → Int64} (ht : ∀ q, q < e.2.1 → t q = eI (e.1 q)) (R : CRd e p i) {Q : F32 → (Nat → Int64) → Prop} (hq : ∀ i' j', CLd e p i' j' → Q i' j') : w_Reader_advance i j t Q := by
  refine C_advance (p := p) X.t X.l ht R.n R.l R.p R.le (fun i' j' hk T => ?_)
  have hle := oK_le e p
  have hT := T.pl
  rw [← oS_d, ← oP_d] at hT
  refine hq _ _ ⟨(hk 1 (by omega)).trans R.n, (hk 2 (by omega)).trans R.l, hT, ?_, ?_, ?_, ?_, (hk 8 (by omega)).trans R.f⟩
  · have hc : oK e p = 0 ∨ oK e p = 1 ∨ oK e p = 2 ∨ oK e p = 3 ∨ oK e p = 4 ∨ oK e p = 5 := by omega
    rcases hc with h | h | h | h | h | h
    · rw [h]; exact T.e0 (by rw [← oK_d]; exact h)
    · rw [h]; exact (T.e1 (by rw [← oK_d]; exact h)).1
    · rw [h]; exact (T.e2 (by rw [← oK_d]; exact h)).1
    · rw [h]; exact (T.e3 (by rw [← oK_d]; exact h)).1
    · rw [h]; exact T.e4 (by rw [← oK_d]; exact h)
    · rw [h]; exact (T.e5 (by rw [← oK_d]; exact h)).1
  · intro h0 h4
    have hc : oK e p = 1 ∨ oK e p = 2 ∨ oK e p = 3 ∨ oK e p = 5 := by omega
    rcases hc with h | h | h | h
    · rw [(T.e1 (by rw [← oK_d]; exact h)).2.1]; rw [oX_d, if_pos (Or.inl h), oN_d, oS_d]
    · rw [(T.e2 (by rw [← oK_d]; exact h)).2.1]; rw [oX_d, if_pos (Or.inr h), oN_d, oS_d]
    · rw [(T.e3 (by rw [← oK_d]; exact h)).2]; rw [oX_d, if_neg (by omega), oS_d]
    · rw [(T.e5 (by rw [← oK_d]; exact h)).2]; rw [oX_d, if_neg (by omega), oS_d]
  · intro h; rw [oL_d, oN_d, oS_d]; exact (T.e1 (by rw [← oK_d]; exact h)).2.2
  · intro h; rw [oV_d, oN_d, oS_d]; exact (T.e2 (by rw [← oK_d]; exact h)).2.2
def RNx (e : TXX) (p : Nat) (i : F32) : Prop :=
  (i 3 = eI e.2.1) ∧
  (i 5 = eI e.2.2) ∧
  (i 4 = eI p) ∧
  (p ≤ e.2.1) ∧
  (i 15 = 0)
theorem RNx.n {e : TXX} {p : Nat} {i : F32} (h : RNx e p i) : i 3 = eI e.2.1 := h.1
theorem RNx.l {e : TXX} {p : Nat} {i : F32} (h : RNx e p i) : i 5 = eI e.2.2 := h.2.1
theorem RNx.p {e : TXX} {p : Nat} {i : F32} (h : RNx e p i) : i 4 = eI p := h.2.2.1
theorem RNx.le {e : TXX} {p : Nat} {i : F32} (h : RNx e p i) : p ≤ e.2.1 := h.2.2.2.1
theorem RNx.f {e : TXX} {p : Nat} {i : F32} (h : RNx e p i) : i 15 = 0 := h.2.2.2.2
def RLd (e : TXX) (p : Nat) (i : F32) (j : Nat → Int64) : Prop :=
  (i 3 = eI e.2.1) ∧
  (i 5 = eI e.2.2) ∧
  (i 12 = eI (oP e p)) ∧
  (i 11 = eI (rso e (oK e p))) ∧
  (oK e p ≠ 0 → oK e p ≠ 4 → i 4 = eI (oX e p)) ∧
  (oK e p = 1 → j 17 = eJ (oW e p)) ∧
  (oK e p = 2 → i 14 = eI (oV e p)) ∧
  (oK e p = 3 → i 14 = 59) ∧
  (oK e p = 5 → i 14 = 45) ∧
  (i 15 = 0)
theorem RLd.n {e : TXX} {p : Nat} {i : F32} {j : Nat → Int64} (h : RLd e p i j) : i 3 = eI e.2.1 := h.1
theorem RLd.l {e : TXX} {p : Nat} {i : F32} {j : Nat → Int64} (h : RLd e p i j) : i 5 = eI e.2.2 := h.2.1
theorem RLd.pl {e : TXX} {p : Nat} {i : F32} {j : Nat → Int64} (h : RLd e p i j) : i 12 = eI (oP e p) := h.2.2.1
theorem RLd.s {e : TXX} {p : Nat} {i : F32} {j : Nat → Int64} (h : RLd e p i j) : i 11 = eI (rso e (oK e p)) := h.2.2.2.1
theorem RLd.x {e : TXX} {p : Nat} {i : F32} {j : Nat → Int64} (h : RLd e p i j) : oK e p ≠ 0 → oK e p ≠ 4 → i 4 = eI (oX e p) := h.2.2.2.2.1
theorem RLd.w {e : TXX} {p : Nat} {i : F32} {j : Nat → Int64} (h : RLd e p i j) : oK e p = 1 → j 17 = eJ (oW e p) := h.2.2.2.2.2.1
theorem RLd.v {e : TXX} {p : Nat} {i : F32} {j : Nat → Int64} (h : RLd e p i j) : oK e p = 2 → i 14 = eI (oV e p) := h.2.2.2.2.2.2.1
theorem RLd.s3 {e : TXX} {p : Nat} {i : F32} {j : Nat → Int64} (h : RLd e p i j) : oK e p = 3 → i 14 = 59 := h.2.2.2.2.2.2.2.1
theorem RLd.s5 {e : TXX} {p : Nat} {i : F32} {j : Nat → Int64} (h : RLd e p i j) : oK e p = 5 → i 14 = 45 := h.2.2.2.2.2.2.2.2.1
theorem RLd.f {e : TXX} {p : Nat} {i : F32} {j : Nat → Int64} (h : RLd e p i j) : i 15 = 0 := h.2.2.2.2.2.2.2.2.2
theorem RLd.r {e : TXX} {p : Nat} {i : F32} {j : Nat → Int64} (h : RLd e p i j) (h0 : oK e p ≠ 0) (h4 : oK e p ≠ 4) : RNx e (oX e p) i := ⟨h.n, h.l, h.x h0 h4, oX_le h0, h.f⟩
theorem RNx.u {e : TXX} {p : Nat} {i : F32} {q : Nat} {x : Int32} (h : RNx e p i) (h1 : q ≠ 3) (h2 : q ≠ 4) (h3 : q ≠ 5) (h4 : q ≠ 15) : RNx e p (upd i q x) := ⟨by rw [upd_n (by omega)]; exact h.n, by rw [upd_n (by omega)]; exact h.l, by rw [upd_n (by omega)]; exact h.p, h.le, by rw [upd_n (by omega)]; exact h.f⟩
theorem RLd.u {e : TXX} {p : Nat} {i : F32} {j : Nat → Int64} {q : Nat} {x : Int32} (h : RLd e p i j) (h1 : q ≠ 3) (h2 : q ≠ 4) (h3 : q ≠ 5) (h4 : q ≠ 15) (h5 : q ≠ 11) (h6 : q ≠ 12) (h7 : q ≠ 14) : RLd e p (upd i q x) j := ⟨by rw [upd_n (by omega)]; exact h.n, by rw [upd_n (by omega)]; exact h.l, by rw [upd_n (by omega)]; exact h.pl, by rw [upd_n (by omega)]; exact h.s, by rw [upd_n (by omega)]; exact h.x, h.w, by rw [upd_n (by omega)]; exact h.v, by rw [upd_n (by omega)]; exact h.s3, by rw [upd_n (by omega)]; exact h.s5, by rw [upd_n (by omega)]; exact h.f⟩
/-- what reading leaves as it was -/
def KN (i i' : F32) : Prop := ∀ q, q ≠ 4 → q ≠ 11 → q ≠ 12 → q ≠ 13 → q ≠ 14 → q ≠ 15 → q ≠ 16 → q ≠ 18 → i' q = i q
theorem KN.rf {i : F32} : KN i i := fun _ _ _ _ _ _ _ _ _ => rfl
theorem KN.tr {i i' i'' : F32} (h : KN i i') (h' : KN i' i'') : KN i i'' := fun q a b c d e f g k => (h' q a b c d e f g k).trans (h q a b c d e f g k)
theorem M_nxt {e : TXX} {p : Nat} (X : TK e) {i t : F32} {j : Nat → Int64} (ht : ∀ q, q < e.2.1 → t q &&& 255 = eI (e.1 q)) (R : RNx e p i) {Q : F32 → (Nat → Int64) → Prop} (hq : ∀ i' j', RLd e p i' j' → KN i i' → i' 18 = i 18 → Q i' j') : w_LongTrainModel_next i j t Q := by
  refine M_next (p := p) X.t X.l ht R.n R.l R.p R.le (fun i' j' hk T => ?_)
  have hle := oK_le e p
  have hT := T.pl
  rw [← oS_d, ← oP_d] at hT
  refine hq _ _ ⟨(hk 3 (by omega) (by omega) (by omega) (by omega) (by omega)).trans R.n, (hk 5 (by omega) (by omega) (by omega) (by omega) (by omega)).trans R.l, hT, ?_, ?_, ?_, ?_, ?_, ?_, (hk 15 (by omega) (by omega) (by omega) (by omega) (by omega)).trans R.f⟩ (fun q a b c d e _ _ _ => hk q a b c d e) (hk 18 (by omega) (by omega) (by omega) (by omega) (by omega))
  · have hc : oK e p = 0 ∨ oK e p = 1 ∨ oK e p = 2 ∨ oK e p = 3 ∨ oK e p = 4 ∨ oK e p = 5 := by omega
    rcases hc with h | h | h | h | h | h
    · rw [h]; exact T.e0 (by rw [← oK_d]; exact h)
    · rw [h]; exact (T.e1 (by rw [← oK_d]; exact h)).1
    · rw [h]; exact (T.e2 (by rw [← oK_d]; exact h)).1
    · rw [h]; exact (T.e3 (by rw [← oK_d]; exact h)).1
    · rw [h]; exact T.e4 (by rw [← oK_d]; exact h)
    · rw [h]; exact (T.e5 (by rw [← oK_d]; exact h)).1
  · intro h0 h4
    have hc : oK e p = 1 ∨ oK e p = 2 ∨ oK e p = 3 ∨ oK e p = 5 := by omega
    rcases hc with h | h | h | h
    · rw [(T.e1 (by rw [← oK_d]; exact h)).2.1]; rw [oX_d, if_pos (Or.inl h), oN_d, oS_d]
    · rw [(T.e2 (by rw [← oK_d]; exact h)).2.1]; rw [oX_d, if_pos (Or.inr h), oN_d, oS_d]
    · rw [(T.e3 (by rw [← oK_d]; exact h)).2.2]; rw [oX_d, if_neg (by omega), oS_d]
    · rw [(T.e5 (by rw [← oK_d]; exact h)).2.2]; rw [oX_d, if_neg (by omega), oS_d]
  · intro h; rw [oW_d, oN_d, oS_d]; exact (T.e1 (by rw [← oK_d]; exact h)).2.2
  · intro h; rw [oV_d, oN_d, oS_d]; exact (T.e2 (by rw [← oK_d]; exact h)).2.2
  · intro h; exact (T.e3 (by rw [← oK_d]; exact h)).2.1
  · intro h; exact (T.e5 (by rw [← oK_d]; exact h)).2.1
theorem rso_1 {e : TXX} {k : Nat} (hk : k ≤ 5) : (rso e k = 1 ↔ k = 1) ∧ (rso e k = 2 ↔ k = 2) ∧ (rso e k = 3 ↔ k = 3 ∨ k = 5) ∧ (rso e k = 0 ↔ k = 0 ∧ e.2.1 ≤ e.2.2) ∧ 0 ≤ rso e k ∧ rso e k ≤ 5 := by
  unfold rso
  by_cases h0 : k = 0
  · subst h0
    rw [if_pos rfl]
    split <;> omega
  · rw [if_neg h0]
    split <;> omega
theorem cso_1 {k : Nat} (hk : k ≤ 5) : (cso k = 1 ↔ k = 1) ∧ (cso k = 2 ↔ k = 2) ∧ (cso k = 3 ↔ k = 3) ∧ (cso k = 5 ↔ k = 0) ∧ (cso k = 4 ↔ k = 5) ∧ 0 ≤ cso k ∧ cso k ≤ 5 := by
  unfold cso
  split
  · omega
  split
  · omega
  split <;> omega
/-! what reading comes to: a fault and its place, or 0, a place and what was read -/
abbrev RS := Nat × Nat × (Nat → Int)
def flt (k p : Nat) : RS := (k, p, fun _ => 0)
noncomputable def numS (e : TXX) (p : Nat) (lo hi : Int) (k : RS) : RS :=
  if oK e p ≠ 2 then flt 1 (oP e p) else if ¬ (lo ≤ oV e p ∧ oV e p ≤ hi) then flt 2 (oP e p) else k
noncomputable def semS (e : TXX) (p : Nat) (k : RS) : RS := if oK e p = 3 then k else flt 1 (oP e p)
noncomputable def namS (e : TXX) (p : Nat) (k : RS) : RS := @ite RS (nam e p) (Classical.propDecidable _) k (flt 1 (oP e p))
/-- a fault of r, told -/
def CFl (r : RS) (i : F32) : Prop := ∃ k p : Nat, 1 ≤ k ∧ k ≤ 4 ∧ p ≤ 940 ∧ r = flt k p ∧ i 8 = eI k ∧ i 9 = eI p
def RFl (r : RS) (i : F32) : Prop := ∃ k p : Nat, 1 ≤ k ∧ k ≤ 4 ∧ p ≤ 940 ∧ r = flt k p ∧ i 15 = eI k ∧ i 16 = eI p
theorem oP_940 {e : TXX} (X : TK e) (p : Nat) : oP e p ≤ 940 := Nat.le_trans (oP_le e p) X.t.n
theorem C_failHere {e : TXX} {p k : Nat} {r : RS} (X : TK e) {i : F32} {j : Nat → Int64} (C : CLd e p i j) (h1 : 1 ≤ k) (h4 : k ≤ 4) (hE : r = flt k (oP e p)) {kk : Int32} (hk : kk = eI k) {Q : Int32 → F32 → Prop} (bad : ∀ i', CFl r i' → Q 0 i') : w_Reader_failHere i kk Q := by
  unfold w_Reader_failHere w_Reader_fail
  refine bad _ ⟨k, oP e p, h1, h4, oP_940 X p, hE, ?_, ?_⟩
  · rw [upd_n (by omega), upd_s, hk]
  · rw [upd_s, C.pl]
theorem M_bad {e : TXX} {p k : Nat} {r : RS} (X : TK e) {i : F32} {j : Nat → Int64} (R : RLd e p i j) (h1 : 1 ≤ k) (h4 : k ≤ 4) (hE : r = flt k (oP e p)) {kk : Int32} (hk : kk = eI k) {Q : Int32 → F32 → Prop} (bad : ∀ i', RFl r i' → KN i i' → Q 0 i') : w_LongTrainModel_bad i kk Q := by
  unfold w_LongTrainModel_bad
  refine bad _ ⟨k, oP e p, h1, h4, oP_940 X p, hE, ?_, ?_⟩ (fun q _ _ _ _ _ a b _ => by rw [upd_n b, upd_n a])
  · rw [upd_n (by omega), upd_s, hk]
  · rw [upd_s, upd_n (by omega), R.pl]
theorem C_isNumber {e : TXX} {p : Nat} {r k : RS} {lo hi : Int} (X : TK e) {i : F32} {j : Nat → Int64} (C : CLd e p i j) (hlo : B31 lo) (hhi : B31 hi) (hE : r = numS e p lo hi k) {Q : Int32 → F32 → Prop} (ok : r = k → oK e p = 2 → lo ≤ oV e p → oV e p ≤ hi → i 6 = eI (oV e p) → Q 1 i) (bad : ∀ i', CFl r i' → Q 0 i') : w_Reader_isNumber i (eI lo) (eI hi) Q := by
  have hs := cso_1 (oK_le e p)
  unfold w_Reader_isNumber
  rw [C.s]
  unfold numS at hE
  refine q_eq (b := 2) (by (first | exact B31_s (by omega) (by omega) | exact B31_of _ | (constructor <;> omega))) (by (first | exact B31_s (by omega) (by omega) | exact B31_of _ | (constructor <;> omega))) (fun h2 => ?_) (fun h2 => ?_)
  · have hk2 : oK e p = 2 := hs.2.1.mp h2
    have hv := oV_bd hk2
    rw [if_neg (by omega)] at hE
    have hi6 := C.v hk2
    rw [hi6]
    refine q_lt (by (first | exact B31_s (by omega) (by omega) | exact B31_of _ | (constructor <;> omega))) hlo (fun h => ?_) (fun h => ?_)
    · rw [if_pos (by omega)] at hE
      exact C_failHere X C (by omega) (by omega) hE rfl (fun i' F => by (first | refine z0T ?_ | refine z0N ?_); exact bad i' F)
    · refine q_le (by (first | exact B31_s (by omega) (by omega) | exact B31_of _ | (constructor <;> omega))) hhi (fun h' => ?_) (fun h' => ?_)
      · rw [if_neg (by omega)] at hE
        exact ok hE hk2 h h' hi6
      · rw [if_pos (by omega)] at hE
        exact C_failHere X C (by omega) (by omega) hE rfl (fun i' F => by (first | refine z0T ?_ | refine z0N ?_); exact bad i' F)
  · have hk2 : oK e p ≠ 2 := fun h => h2 (hs.2.1.mpr h)
    rw [if_pos hk2] at hE
    exact C_failHere X C (by omega) (by omega) hE rfl bad
theorem C_nextNumber {e : TXX} {p : Nat} {r k : RS} {lo hi : Int} (X : TK e) {i t : F32} {j : Nat → Int64} (ht : ∀ q, q < e.2.1 → t q = eI (e.1 q)) (C : CRd e p i) (hlo : B31 lo) (hhi : B31 hi) (hE : r = numS e p lo hi k) {Q : Int32 → F32 → (Nat → Int64) → Prop} (ok : ∀ i' j', r = k → oK e p = 2 → lo ≤ oV e p → oV e p ≤ hi → i' 6 = eI (oV e p) → CRd e (oX e p) i' → Q 1 i' j') (bad : ∀ i' j', CFl r i' → Q 0 i' j') : w_Reader_nextNumber i j t (eI lo) (eI hi) Q := by
  unfold w_Reader_nextNumber
  refine C_adv X ht C (fun i' j' L => ?_)
  exact C_isNumber X L hlo hhi hE (fun h1 h2 h3 h4 h5 => ok i' j' h1 h2 h3 h4 h5 (L.r (by omega) (by omega))) (fun i2 F => bad i2 j' F)
theorem C_nextCloses {e : TXX} {p : Nat} {r k : RS} (X : TK e) {i t : F32} {j : Nat → Int64} (ht : ∀ q, q < e.2.1 → t q = eI (e.1 q)) (C : CRd e p i) (hE : r = semS e p k) {Q : Int32 → F32 → (Nat → Int64) → Prop} (ok : ∀ i' j', r = k → oK e p = 3 → CRd e (oX e p) i' → Q 1 i' j') (bad : ∀ i' j', CFl r i' → Q 0 i' j') : w_Reader_nextCloses i j t Q := by
  unfold w_Reader_nextCloses
  refine C_adv X ht C (fun i' j' L => ?_)
  have hs := cso_1 (oK_le e p)
  rw [L.s]
  unfold semS at hE
  refine q_eq (b := 3) (by (first | exact B31_s (by omega) (by omega) | exact B31_of _ | (constructor <;> omega))) (by (first | exact B31_s (by omega) (by omega) | exact B31_of _ | (constructor <;> omega))) (fun h2 => ?_) (fun h2 => ?_)
  · have h3 := hs.2.2.1.mp h2
    rw [if_pos h3] at hE
    exact ok i' j' hE h3 (L.r (by omega) (by omega))
  · rw [if_neg (fun h => h2 (hs.2.2.1.mpr h))] at hE
    exact C_failHere X L (by omega) (by omega) hE rfl (fun i2 F => by (first | refine z0T ?_ | refine z0N ?_); exact bad i2 j' F)
theorem M_takes {e : TXX} {p : Nat} {r k : RS} {lo hi : Int} (X : TK e) {i t : F32} {j : Nat → Int64} (ht : ∀ q, q < e.2.1 → t q &&& 255 = eI (e.1 q)) (R : RLd e p i j) (hlo : B31 lo) (hhi : B31 hi) (hE : r = numS e p lo hi k) {Q : Int32 → F32 → (Nat → Int64) → Prop} (ok : ∀ i' j', r = k → oK e p = 2 → lo ≤ oV e p → oV e p ≤ hi → i' 18 = eI (oV e p) → RLd e (oX e p) i' j' → KN i i' → Q 1 i' j') (bad : ∀ i' j', RFl r i' → KN i i' → Q 0 i' j') : w_LongTrainModel_takes i j t (eI lo) (eI hi) Q := by
  have hs := rso_1 (e := e) (oK_le e p)
  unfold w_LongTrainModel_takes
  rw [R.s]
  unfold numS at hE
  refine q_eq (b := 2) (by (first | exact B31_s (by omega) (by omega) | exact B31_of _ | (constructor <;> omega))) (by (first | exact B31_s (by omega) (by omega) | exact B31_of _ | (constructor <;> omega))) (fun h2 => ?_) (fun h2 => ?_)
  · have hk2 : oK e p = 2 := hs.2.1.mp h2
    have hv := oV_bd hk2
    rw [if_neg (by omega)] at hE
    rw [R.v hk2]
    refine M_isIn (by (first | exact B31_s (by omega) (by omega) | exact B31_of _ | (constructor <;> omega))) hlo hhi (fun h h' => ?_) (fun h => ?_)
    · (first | refine z1T ?_ | refine z1N ?_)
      rw [if_neg (by omega)] at hE
      refine M_nxt X ht ((R.r (by omega) (by omega)).u (by omega) (by omega) (by omega) (by omega)) (fun i' j' R' K' h18 => ?_)
      exact ok i' j' hE hk2 h h' (by rw [h18, upd_s]) R' (fun q a b c d e f g k => by rw [K' q a b c d e f g k, upd_n k])
    · (first | refine z0T ?_ | refine z0N ?_)
      rw [if_pos h] at hE
      exact M_bad X R (by omega) (by omega) hE rfl (fun i' F K => bad i' j F K)
  · have hk2 : oK e p ≠ 2 := fun h => h2 (hs.2.1.mpr h)
    rw [if_pos hk2] at hE
    exact M_bad X R (by omega) (by omega) hE rfl (fun i' F K => bad i' j F K)
theorem M_isSemi {e : TXX} {p : Nat} {i : F32} {j : Nat → Int64} (R : RLd e p i j) {Q : Int32 → Prop} (h1 : oK e p = 3 → Q 1) (h0 : oK e p ≠ 3 → Q 0) : w_LongTrainModel_isSign i 59 Q := by
  have hs := rso_1 (e := e) (oK_le e p)
  unfold w_LongTrainModel_isSign
  rw [R.s]
  refine q_ne (b := 3) (by (first | exact B31_s (by omega) (by omega) | exact B31_of _ | (constructor <;> omega))) (by (first | exact B31_s (by omega) (by omega) | exact B31_of _ | (constructor <;> omega))) (fun h => h0 (fun h3 => h (hs.2.2.1.mpr (Or.inl h3)))) (fun h => ?_)
  rcases hs.2.2.1.mp h with h3 | h5
  · rw [R.s3 h3]; exact ⟨fun h => absurd rfl h, fun _ => h1 h3⟩
  · rw [R.s5 h5]; exact ⟨fun _ => h0 (by omega), fun h => absurd h (by decide)⟩
theorem M_isMinus {e : TXX} {p : Nat} {i : F32} {j : Nat → Int64} (R : RLd e p i j) {Q : Int32 → Prop} (h1 : oK e p = 5 → Q 1) (h0 : oK e p ≠ 5 → Q 0) : w_LongTrainModel_isSign i 45 Q := by
  have hs := rso_1 (e := e) (oK_le e p)
  unfold w_LongTrainModel_isSign
  rw [R.s]
  refine q_ne (b := 3) (by (first | exact B31_s (by omega) (by omega) | exact B31_of _ | (constructor <;> omega))) (by (first | exact B31_s (by omega) (by omega) | exact B31_of _ | (constructor <;> omega))) (fun h => h0 (fun h3 => h (hs.2.2.1.mpr (Or.inr h3)))) (fun h => ?_)
  rcases hs.2.2.1.mp h with h3 | h5
  · rw [R.s3 h3]; exact ⟨fun _ => h0 (by omega), fun h => absurd h (by decide)⟩
  · rw [R.s5 h5]; exact ⟨fun h => absurd rfl h, fun _ => h1 h5⟩
theorem M_sign {e : TXX} {p : Nat} {r k : RS} (X : TK e) {i t : F32} {j : Nat → Int64} (ht : ∀ q, q < e.2.1 → t q &&& 255 = eI (e.1 q)) (R : RLd e p i j) (hE : r = semS e p k) {Q : Int32 → F32 → (Nat → Int64) → Prop} (ok : ∀ i' j', r = k → oK e p = 3 → RLd e (oX e p) i' j' → KN i i' → Q 1 i' j') (bad : ∀ i' j', RFl r i' → KN i i' → Q 0 i' j') : w_LongTrainModel_sign i j t 59 Q := by
  unfold w_LongTrainModel_sign
  unfold semS at hE
  refine M_isSemi R (fun h3 => ?_) (fun h3 => ?_)
  · (first | refine z1T ?_ | refine z1N ?_)
    rw [if_pos h3] at hE
    exact M_nxt X ht (R.r (by omega) (by omega)) (fun i' j' R' K' _ => ok i' j' hE h3 R' K')
  · (first | refine z0T ?_ | refine z0N ?_)
    rw [if_neg h3] at hE
    exact M_bad X R (by omega) (by omega) hE rfl (fun i' F K => bad i' j F K)
/-! words and names -/
theorem M_isWord {e : TXX} {p k : Nat} {i : F32} {j : Nat → Int64} (R : RLd e p i j) (hk : k < 16) {w : Int64} (hw : w = eJ (rsv k)) {Q : Int32 → Prop} (h1 : kwd e p = k → Q 1) (h0 : kwd e p ≠ k → Q 0) : w_LongTrainModel_isWord i j w Q := by
  have hs := rso_1 (e := e) (oK_le e p)
  unfold w_LongTrainModel_isWord
  rw [R.s]
  refine q_ne (b := 1) (by (first | exact B31_s (by omega) (by omega) | exact B31_of _ | (constructor <;> omega))) (by (first | exact B31_s (by omega) (by omega) | exact B31_of _ | (constructor <;> omega))) (fun h => h0 (fun h3 => h (hs.1.mpr ((kwd_k hk).mp h3).1))) (fun h => ?_)
  have hk1 := hs.1.mp h
  rw [R.w hk1, hw]
  have b1 := (oW_n hk1).bx
  have b2 := rsv_bd hk
  exact q_jn b1.1 b1.2 b2.1 b2.2 (fun hn => h0 (fun h3 => hn ((kwd_k hk).mp h3).2)) (fun he => h1 ((kwd_k hk).mpr ⟨hk1, he⟩))
theorem M_isName {e : TXX} {p : Nat} {i : F32} {j r : Nat → Int64} (R : RLd e p i j) (hr : ∀ k, k < 16 → r k = eJ (rsv k)) {Q : Int32 → Prop} (h1 : nam e p → Q 1) (h0 : ¬ nam e p → Q 0) : w_LongTrainModel_isName i j r Q := by
  have hs := rso_1 (e := e) (oK_le e p)
  have loop : ∀ y : Int32, (y = 1 ∧ oK e p = 1) ∨ (y = 0 ∧ oK e p ≠ 1) → j_LongTrainModel_isName_13 j r y Q := fun y hy => by
    unfold j_LongTrainModel_isName_13
    refine lg_LongTrainModel_isName_16 (G := Nat) (fun k x1 x2 => k ≤ 16 ∧ x2 = eI k ∧ ((x1 = 1 ∧ oK e p = 1 ∧ ∀ q, q < k → oW e p ≠ rsv q) ∨ (x1 = 0 ∧ ¬ nam e p))) (fun k => 16 - k) ?_ 0 ⟨by omega, rfl, ?_⟩
    · rintro kr k x1 x2 ⟨hk, rfl, hx⟩ hst
      unfold b_LongTrainModel_isName_16
      refine q_le (a := 16) (by (first | exact B31_s (by omega) (by omega) | exact B31_of _ | (constructor <;> omega))) (by (first | exact B31_s (by omega) (by omega) | exact B31_of _ | (constructor <;> omega))) (fun h => ?_) (fun h => ?_)
      · have ek : k = 16 := by omega
        rcases hx with ⟨rfl, ho, hw⟩ | ⟨rfl, hn⟩
        · exact ⟨Or.inr rfl, h1 (nam_w.mpr ⟨ho, fun q hq => hw q (by omega)⟩)⟩
        · exact ⟨Or.inl rfl, h0 hn⟩
      · rcases hx with ⟨rfl, ho, hw⟩ | ⟨rfl, hn⟩
        · (first | refine z1T ?_ | refine z1N ?_)
          refine And.intro (eI_in (by omega) (by omega) (by omega)) ?_
          (try simp (disch := omega) only [eI_cl, Int.toNat_natCast])
          rw [hr k (by omega), R.w ho]
          have b1 := (oW_n ho).bx
          have b2 := rsv_bd (k := k) (by omega)
          refine q_je b1.1 b1.2 b2.1 b2.2 (fun he => ?_) (fun hne => ?_)
          · refine hst (k + 1) _ _ (by omega) ⟨by omega, by (try simp only [eI_lit, eI_neg, eI_add, eI_sub, eI_mul, eF_ap, upd_eF]); congr 1, Or.inr ⟨rfl, fun h => (nam_w.mp h).2 k (by omega) he⟩⟩
          · refine hst (k + 1) _ _ (by omega) ⟨by omega, by (try simp only [eI_lit, eI_neg, eI_add, eI_sub, eI_mul, eF_ap, upd_eF]); congr 1, Or.inl ⟨rfl, ho, fun q hq => ?_⟩⟩
            by_cases eq : q = k
            · subst eq; exact hne
            · exact hw q (by omega)
        · (first | refine z0T ?_ | refine z0N ?_)
          exact hst (k + 1) _ _ (by omega) ⟨by omega, by (try simp only [eI_lit, eI_neg, eI_add, eI_sub, eI_mul, eF_ap, upd_eF]); congr 1, Or.inr ⟨rfl, hn⟩⟩
    · rcases hy with ⟨rfl, ho⟩ | ⟨rfl, ho⟩
      · exact Or.inl ⟨rfl, ho, fun q hq => absurd hq (Nat.not_lt_zero _)⟩
      · exact Or.inr ⟨rfl, fun h => ho h.1⟩
  unfold w_LongTrainModel_isName
  rw [R.s]
  exact q_ne (b := 1) (by (first | exact B31_s (by omega) (by omega) | exact B31_of _ | (constructor <;> omega))) (by (first | exact B31_s (by omega) (by omega) | exact B31_of _ | (constructor <;> omega))) (fun h => loop 0 (Or.inr ⟨rfl, fun h3 => h (hs.1.mpr h3)⟩)) (fun h => loop 1 (Or.inl ⟨rfl, hs.1.mp h⟩))
theorem C_keyword {e : TXX} {p : Nat} (X : TK e) {i t : F32} {j : Nat → Int64} (ht : ∀ q, q < e.2.1 → t q = eI (e.1 q)) (C : CLd e p i j) {Q : Int32 → Prop} (hq : Q (eI (kwd e p))) : w_Reader_keyword i t Q := by
  have hs := cso_1 (oK_le e p)
  have hn := X.t.n
  unfold w_Reader_keyword
  rw [C.s]
  refine q_eq (b := 1) (by (first | exact B31_s (by omega) (by omega) | exact B31_of _ | (constructor <;> omega))) (by (first | exact B31_s (by omega) (by omega) | exact B31_of _ | (constructor <;> omega))) (fun h => ?_) (fun h => ?_)
  · have h1 := hs.1.mp h
    obtain ⟨hl, h7⟩ := oK_1 h1
    have hlt := oK_lt (p := p) (e := e) (by omega)
    have hpl : i 5 = eI (oS e p) := by rw [C.pl, oP_s (by omega)]
    have hx : i 3 = eI ((oS e p + oN e p : Nat) : Int) := by rw [C.x (by omega) (by omega)]; rw [oX_d, if_pos (Or.inl h1)]
    have hb := rnL_bd e.1 (n := e.2.1) (s := oS e p)
    have hb' : oN e p ≤ e.2.1 - oS e p := by rw [oN_d]; exact hb
    refine lg_Reader_keyword_12 (G := Nat) (fun k x1 => k ≤ 16 ∧ x1 = eI k ∧ ∀ q, q < k → oW e p ≠ rsv q) (fun k => 16 - k) ?_ 0 ⟨by omega, rfl, fun q hq => absurd hq (Nat.not_lt_zero _)⟩
    rintro kr k x1 ⟨hk, rfl, hw⟩ hst
    unfold b_Reader_keyword_12
    refine q_lt (a := 15) (by (first | exact B31_s (by omega) (by omega) | exact B31_of _ | (constructor <;> omega))) (by (first | exact B31_s (by omega) (by omega) | exact B31_of _ | (constructor <;> omega))) (fun h => ?_) (fun h => ?_)
    · have e1 : kwd e p = -1 := kwd_n.mpr (fun ⟨_, q, hq, he⟩ => hw q (by omega) he)
      rw [e1] at hq; exact hq
    · have yes : oW e p = rsv k → Q (eI k) := fun he => by
        have := (kwd_k (e := e) (p := p) (k := k) (by omega)).mpr ⟨h1, he⟩
        rw [this] at hq; exact hq
      have no : oW e p ≠ rsv k → kr (eI k + 1) := fun hne => by
        refine hst (k + 1) _ (by omega) ⟨by omega, by (try simp only [eI_lit, eI_neg, eI_add, eI_sub, eI_mul, eF_ap, upd_eF]); congr 1, fun q hq => ?_⟩
        by_cases eq : q = k
        · subst eq; exact hne
        · exact hw q (by omega)
      have hsp := rsv_sp hl h7 (k := k) (by omega)
      rw [← oW_d] at hsp
      unfold w_Reader_isKeyword
      refine lg_Reader_isKeyword_2 (G := Nat) (fun m x2 => m ≤ 7 ∧ x2 = eI m ∧ ∀ q, q < m → (if q < oN e p then e.1 (oS e p + q) else 32) = kc (7 * k + q)) (fun m => 7 - m) ?_ 0 ⟨by omega, rfl, fun q hq => absurd hq (Nat.not_lt_zero _)⟩
      rintro kr2 m x2 ⟨hm, rfl, hc⟩ hst2
      unfold b_Reader_isKeyword_2
      refine q_le (a := 7) (by (first | exact B31_s (by omega) (by omega) | exact B31_of _ | (constructor <;> omega))) (by (first | exact B31_s (by omega) (by omega) | exact B31_of _ | (constructor <;> omega))) (fun h8 => ?_) (fun h8 => ?_)
      · (first | refine z1T ?_ | refine z1N ?_); exact yes (hsp.mpr (fun q hq => hc q (by omega)))
      · have sgn : ∀ y : Int, B31 y → y = (if m < oN e p then e.1 (oS e p + m) else 32) → j_Reader_isKeyword_37 (eI k) (eI m) (eI y) (fun z_1 => (z_1 = 0 → kr (eI k + 1)) ∧ (¬ z_1 = 0 → Q (eI k))) kr2 := fun y hy he => by
          unfold j_Reader_isKeyword_37
          have e7 : (7 : Int32) * eI k + eI m = eI ((7 * k + m : Nat) : Int) := by (try simp only [eI_lit, eI_neg, eI_add, eI_sub, eI_mul, eF_ap, upd_eF]); congr 1
          rw [e7]
          refine And.intro (eI_in (by omega) (by omega) (by omega)) ?_
          have hkc := kwc_f ⟨7 * k + m, by omega⟩
          simp only at hkc
          rw [hkc]
          have hB : B31 (kc (7 * k + m)) := by
            have a := kc_f ⟨k, by omega⟩ ⟨m, by omega⟩
            simp only at a
            by_cases hm2 : m < kln k
            · have := a.1 hm2; (first | exact B31_s (by omega) (by omega) | exact B31_of _ | (constructor <;> omega))
            · have := a.2 (by omega); (first | exact B31_s (by omega) (by omega) | exact B31_of _ | (constructor <;> omega))
          refine q_eq hy hB (fun h9 => ?_) (fun h9 => ?_)
          · refine hst2 (m + 1) _ (by omega) ⟨by omega, by (try simp only [eI_lit, eI_neg, eI_add, eI_sub, eI_mul, eF_ap, upd_eF]); congr 1, fun q hq => ?_⟩
            by_cases eq : q = m
            · subst eq; rw [← he]; exact h9
            · exact hc q (by omega)
          · (first | refine z0T ?_ | refine z0N ?_)
            refine no (fun h10 => h9 ?_)
            rw [he]; exact hsp.mp h10 m (by omega)
        rw [hx, hpl, eI_add]
        refine q_le (by (first | exact B31_s (by omega) (by omega) | exact B31_of _ | (constructor <;> omega))) (by (first | exact B31_s (by omega) (by omega) | exact B31_of _ | (constructor <;> omega))) (fun h9 => ?_) (fun h9 => ?_)
        · exact sgn 32 (by (first | exact B31_s (by omega) (by omega) | exact B31_of _ | (constructor <;> omega))) (by rw [if_neg (by omega)])
        · refine And.intro (eI_in (by omega) (by omega) (by omega)) ?_
          have e8 : ((oS e p : Nat) : Int) + (m : Int) = ((oS e p + m : Nat) : Int) := by omega
          rw [e8]
          (try simp (disch := omega) only [eI_cl, Int.toNat_natCast])
          have hby := X.t.b (oS e p + m) (by omega)
          rw [ht _ (by omega)]
          exact sgn (e.1 (oS e p + m)) (by (first | exact B31_s (by omega) (by omega) | exact B31_of _ | (constructor <;> omega))) (by rw [if_pos (by omega)])
  · have e1 : kwd e p = -1 := kwd_n.mpr (fun ⟨h1, _⟩ => h (hs.1.mpr h1))
    rw [e1] at hq; exact hq
theorem C_isName {e : TXX} {p : Nat} {r k : RS} (X : TK e) {i t : F32} {j : Nat → Int64} (ht : ∀ q, q < e.2.1 → t q = eI (e.1 q)) (C : CLd e p i j) (hE : r = namS e p k) {Q : Int32 → F32 → Prop} (ok : r = k → nam e p → Q 1 i) (bad : ∀ i', CFl r i' → Q 0 i') : w_Reader_isName i t Q := by
  have hs := cso_1 (oK_le e p)
  unfold namS at hE
  have no : ¬ nam e p → w_Reader_failHere i 1 (fun z i' => (z = 0 → Q 0 i') ∧ (¬ z = 0 → Q 1 i')) := fun hn => by
    rw [if_neg hn] at hE
    exact C_failHere X C (by omega) (by omega) hE rfl (fun i' F => by (first | refine z0T ?_ | refine z0N ?_); exact bad i' F)
  unfold w_Reader_isName
  have hb := kwd_bd e p
  rw [C.s]
  refine q_ne (b := 1) (by (first | exact B31_s (by omega) (by omega) | exact B31_of _ | (constructor <;> omega))) (by (first | exact B31_s (by omega) (by omega) | exact B31_of _ | (constructor <;> omega))) (fun h => no (fun hn => h (hs.1.mpr hn.1))) (fun h => ?_)
  refine C_keyword X ht C ?_
  refine q_eq (b := -1) (by (first | exact B31_s (by omega) (by omega) | exact B31_of _ | (constructor <;> omega))) (by (first | exact B31_s (by omega) (by omega) | exact B31_of _ | (constructor <;> omega))) (fun h1 => ?_) (fun h1 => no (fun hn => h1 hn.2))
  have hn : nam e p := ⟨hs.1.mp h, h1⟩
  rw [if_pos hn] at hE
  exact ok hE hn
theorem C_isAtEnd {e : TXX} {p : Nat} (X : TK e) {i : F32} {j : Nat → Int64} (C : CLd e p i j) {Q : Int32 → F32 → Prop} (go : oK e p ≠ 0 → Q 0 i) (fin : oK e p = 0 → e.2.1 ≤ e.2.2 → Q 1 i) (bad : ∀ i', oK e p = 0 → e.2.2 < e.2.1 → i' 8 = eI 1 → i' 9 = eI (oP e p) → Q 1 i') : w_Reader_isAtEnd i Q := by
  have hs := cso_1 (oK_le e p)
  have hn := X.t.n
  have hl := X.l
  unfold w_Reader_isAtEnd w_Reader_fail
  rw [C.s, C.n, C.l]
  refine q_eq (b := 5) (by (first | exact B31_s (by omega) (by omega) | exact B31_of _ | (constructor <;> omega))) (by (first | exact B31_s (by omega) (by omega) | exact B31_of _ | (constructor <;> omega))) (fun h => ?_) (fun h => go (fun h0 => h (hs.2.2.2.1.mpr h0)))
  have h0 := hs.2.2.2.1.mp h
  refine q_le (by (first | exact B31_s (by omega) (by omega) | exact B31_of _ | (constructor <;> omega))) (by (first | exact B31_s (by omega) (by omega) | exact B31_of _ | (constructor <;> omega))) (fun h1 => fin h0 (by omega)) (fun h1 => ?_)
  refine bad _ h0 (by omega) (by rw [upd_n (by omega), upd_s]; rfl) ?_
  rw [upd_s]
  have := oK_0 h0
  rw [oP_d]
  congr 2
  omega
