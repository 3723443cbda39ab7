/-! line: names -/
noncomputable def fdS : (Nat → Int) → Nat → Nat → Int → Int := hidF (fun nw a m w => if lf (fun k => nw (a + k) = w) m < m then ((lf (fun k => nw (a + k) = w) m : Nat) : Int) else -1)
theorem fdS_d (nw : Nat → Int) (a m : Nat) (w : Int) : fdS nw a m w = if lf (fun k => nw (a + k) = w) m < m then ((lf (fun k => nw (a + k) = w) m : Nat) : Int) else -1 := by unfold fdS; rw [hidF_eq]
theorem fdS_bd (nw : Nat → Int) (a m : Nat) (w : Int) : -1 ≤ fdS nw a m w ∧ fdS nw a m w < m := by
  rw [fdS_d]
  split <;> omega
theorem fdS_y {nw : Nat → Int} {a m k : Nat} {w : Int} (h1 : ∀ q, q < k → nw (a + q) ≠ w) (hk : k < m) (h2 : nw (a + k) = w) : fdS nw a m w = k := by
  have : lf (fun k => nw (a + k) = w) m = k := lf_eq (by omega) h1 (fun _ => h2)
  rw [fdS_d, this, if_pos hk]
theorem fdS_z {nw : Nat → Int} {a m : Nat} {w : Int} (h1 : ∀ q, q < m → nw (a + q) ≠ w) : fdS nw a m w = -1 := by
  have : lf (fun k => nw (a + k) = w) m = m := lf_eq (by omega) h1 (fun h => by omega)
  rw [fdS_d, this, if_neg (by omega)]
theorem M_find {nw nl : Nat → Int} {a m : Nat} {w l : Int} {j nm : Nat → Int64} (hm : a + m ≤ 32) (hj : j 17 = eJ w) (W : WN w l) (hn : ∀ k, k < m → nm (a + k) = eJ (nw (a + k))) (hw : ∀ k, k < m → WN (nw (a + k)) (nl (a + k))) {Q : Int32 → Prop} (hq : Q (eI (fdS nw a m w))) : w_LongTrainModel_find j nm (eI a) (eI m) Q := by
  unfold w_LongTrainModel_find
  refine lg_LongTrainModel_find_2 (G := Nat) (fun k x => k ≤ m ∧ x = eI ((k : Nat) : Int) ∧ ∀ q, q < k → nw (a + q) ≠ w) (fun k => m - k) ?_ 0 ⟨by omega, rfl, fun q hq => absurd hq (Nat.not_lt_zero _)⟩
  rintro kr k x ⟨hk, rfl, hall⟩ hst
  unfold b_LongTrainModel_find_2
  refine q_le (by (first | exact B31_s (by omega) (by omega) | exact B31_of _ | (constructor <;> omega))) (by (first | exact B31_s (by omega) (by omega) | exact B31_of _ | (constructor <;> omega))) (fun h => ?_) (fun h => ?_)
  · rw [fdS_z (fun q hq => hall q (by omega))] at hq; exact hq
  · have e1 : eI (a : Int) + eI (k : Int) = eI ((a + k : Nat) : Int) := by (try simp only [eI_lit, eI_neg, eI_add, eI_sub, eI_mul, eF_ap, upd_eF]); congr 1
    rw [e1]
    refine And.intro (eI_in (by omega) (by omega) (by omega)) ?_; (try simp (disch := omega) only [eI_cl, Int.toNat_natCast])
    rw [hj, hn k (by omega)]
    have b1 := (hw k (by omega)).bx
    have b2 := W.bx
    refine q_jn b1.1 b1.2 b2.1 b2.2 (fun hne => ?_) (fun he => ?_)
    · refine hst (k + 1) _ (by omega) ⟨by omega, by (try simp only [eI_lit, eI_neg, eI_add, eI_sub, eI_mul, eF_ap, upd_eF]); congr 1, fun q hq => ?_⟩
      by_cases eq : q = k
      · subst eq; exact hne
      · exact hall q (by omega)
    · rw [fdS_y hall (by omega) he] at hq; exact hq
theorem C_index {nw nl : Nat → Int} {a m N : Nat} {w l : Int} {kN : Nat → Int64} (hm : m ≤ N) (hN : N ≤ 32) (W : WN w l) (hn : ∀ k, k < m → kN k = eJ (nl (a + k))) (hw : ∀ k, k < m → WN (nw (a + k)) (nl (a + k))) {x0 : Int64} (hx : x0 = eJ l) {Q : Int32 → Prop} (hq : Q (eI (fdS nw a m w))) : w_LineReader_indexOf N kN x0 (eI m) Q := by
  unfold w_LineReader_indexOf
  refine lg_LineReader_indexOf_3 (G := Nat) (fun k x => k ≤ m ∧ x = eI ((k : Nat) : Int) ∧ ∀ q, q < k → nw (a + q) ≠ w) (fun k => m - k) ?_ 0 ⟨by omega, rfl, fun q hq => absurd hq (Nat.not_lt_zero _)⟩
  rintro kr k x ⟨hk, rfl, hall⟩ hst
  unfold b_LineReader_indexOf_3
  refine q_le (by (first | exact B31_s (by omega) (by omega) | exact B31_of _ | (constructor <;> omega))) (by (first | exact B31_s (by omega) (by omega) | exact B31_of _ | (constructor <;> omega))) (fun h => ?_) (fun h => ?_)
  · rw [fdS_z (fun q hq => hall q (by omega))] at hq; exact hq
  · refine And.intro (eI_in (by omega) (by omega) (by omega)) ?_; (try simp (disch := omega) only [eI_cl, Int.toNat_natCast])
    rw [hx, hn k (by omega)]
    have b1 := (hw k (by omega)).bz
    have b2 := W.bz
    have we := (hw k (by omega)).eq W
    refine q_jn b1.1 b1.2 b2.1 b2.2 (fun hne => ?_) (fun he => ?_)
    · refine hst (k + 1) _ (by omega) ⟨by omega, by (try simp only [eI_lit, eI_neg, eI_add, eI_sub, eI_mul, eF_ap, upd_eF]); congr 1, fun q hq => ?_⟩
      by_cases eq : q = k
      · subst eq; exact fun h3 => hne (we.mp h3)
      · exact hall q (by omega)
    · rw [fdS_y hall (by omega) (we.mpr he)] at hq; exact hq
noncomputable def fH (e : TXX) (p : Nat) (S : LRS) : Int := fdS S.nw 16 (S.h 1).toNat (oW e p)
noncomputable def fK_ (e : TXX) (p : Nat) (S : LRS) : Int := fdS S.nw 26 (S.h 3).toNat (oW e p)
theorem M_fH {e : TXX} {p : Nat} {S : LRS} {i hA : F32} {j nm : Nat → Int64} (L : LSk S) (M : MR S i hA nm) {i' : F32} (R : RLd e p i' j) (h1 : oK e p = 1) {x : Int32} (hx : x = eI (S.h 1)) {Q : Int32 → Prop} (hq : Q (eI (fH e p S))) : w_LongTrainModel_find j nm 16 x Q := by
  have hc := L.o.hc
  have e1 : S.h 1 = (((S.h 1).toNat : Nat) : Int) := by omega
  rw [hx, e1]
  exact M_find (a := 16) (nl := S.nl) (by omega) (R.w h1) (oW_n h1) (fun k hk => M.n1 k (by omega)) (fun k hk => L.n1 k (by omega)) hq
theorem M_fK {e : TXX} {p : Nat} {S : LRS} {i hA : F32} {j nm : Nat → Int64} (L : LSk S) (M : MR S i hA nm) {i' : F32} (R : RLd e p i' j) (h1 : oK e p = 1) {x : Int32} (hx : x = eI (S.h 3)) {Q : Int32 → Prop} (hq : Q (eI (fK_ e p S))) : w_LongTrainModel_find j nm 26 x Q := by
  have hc := L.o.kc
  have e1 : S.h 3 = (((S.h 3).toNat : Nat) : Int) := by omega
  rw [hx, e1]
  exact M_find (a := 26) (nl := S.nl) (by omega) (R.w h1) (oW_n h1) (fun k hk => M.n2 k (by omega)) (fun k hk => L.n2 k (by omega)) hq
theorem C_fH {e : TXX} {p : Nat} {S : LRS} {it il gl hl ol d fl : F32} {j hN kN : Nat → Int64} (L : LSk S) (M : CR S it il gl hl ol d fl hN kN) {i' : F32} (R : CLd e p i' j) (h1 : oK e p = 1) {Q : Int32 → Prop} (hq : Q (eI (fH e p S))) : w_LineReader_haltNamed hN il (j 7) Q := by
  have hc := L.o.hc
  have e1 : S.h 1 = (((S.h 1).toNat : Nat) : Int) := by omega
  unfold w_LineReader_haltNamed
  rw [M.I.hc, e1]
  exact C_index (a := 16) (nl := S.nl) (by omega) (by omega) (oW_n h1) (fun k hk => M.n1 k (by omega)) (fun k hk => L.n1 k (by omega)) (R.w h1) hq
theorem C_fK {e : TXX} {p : Nat} {S : LRS} {it il gl hl ol d fl : F32} {j hN kN : Nat → Int64} (L : LSk S) (M : CR S it il gl hl ol d fl hN kN) {i' : F32} (R : CLd e p i' j) (h1 : oK e p = 1) {Q : Int32 → Prop} (hq : Q (eI (fK_ e p S))) : w_LineReader_kindNamed kN il (j 7) Q := by
  have hc := L.o.kc
  have e1 : S.h 3 = (((S.h 3).toNat : Nat) : Int) := by omega
  unfold w_LineReader_kindNamed
  rw [M.I.kc, e1]
  exact C_index (a := 26) (nl := S.nl) (by omega) (by omega) (oW_n h1) (fun k hk => M.n2 k (by omega)) (fun k hk => L.n2 k (by omega)) (R.w h1) hq
noncomputable def frS (e : TXX) (p : Nat) (S : LRS) (k : RS) : RS := namS e p (if 0 ≤ fH e p S ∨ 0 ≤ fK_ e p S then flt 3 (oP e p) else k)
def RSV (rv : Nat → Int64) : Prop := ∀ k, k < 16 → rv k = eJ (rsv k)
theorem fH_bd {e : TXX} {p : Nat} {S : LRS} (L : LSk S) : -1 ≤ fH e p S ∧ fH e p S < S.h 1 := by
  have hc := L.o.hc
  have := fdS_bd S.nw 16 (S.h 1).toNat (oW e p)
  unfold fH; omega
theorem fK_bd {e : TXX} {p : Nat} {S : LRS} (L : LSk S) : -1 ≤ fK_ e p S ∧ fK_ e p S < S.h 3 := by
  have hc := L.o.kc
  have := fdS_bd S.nw 26 (S.h 3).toNat (oW e p)
  unfold fK_; omega
theorem M_fresh {e : TXX} {p : Nat} {S : LRS} {r k : RS} (X : TK e) {i0 i t hA : F32} {j nm rv : Nat → Int64} (ht : ∀ q, q < e.2.1 → t q &&& 255 = eI (e.1 q)) (hrv : RSV rv) (R : RLd e p i j) (L : LSk S) (M : MR S i0 hA nm) (hE : r = frS e p S k) {to : Nat} (hto : to < 32) {x : Int32} (hx : x = eI to) {Q : Int32 → F32 → (Nat → Int64) → (Nat → Int64) → Prop} (ok : ∀ i' j', r = k → nam e p → RLd e (oX e p) i' j' → KN i i' → Q 1 i' j' (vp_updL nm to (eJ (oW e p)))) (bad : ∀ i' j', RFl r i' → KN i i' → Q 0 i' j' nm) : w_LongTrainModel_fresh i j rv hA nm t x Q := by
  have hc := L.o.hc
  have hkc := L.o.kc
  have b1 := fH_bd (e := e) (p := p) L
  have b2 := fK_bd (e := e) (p := p) L
  unfold frS namS at hE
  unfold w_LongTrainModel_fresh
  rw [M.h, eF_ap, eF_ap]
  refine M_isName R hrv (fun hn => ?_) (fun hn => ?_)
  · (first | refine z1T ?_ | refine z1N ?_)
    have h1 := hn.1
    rw [if_pos hn] at hE
    refine M_fH L M R h1 rfl ?_
    refine q_ge0 (by (first | exact B31_s (by omega) (by omega) | exact B31_of _ | (constructor <;> omega))) (fun h => ?_) (fun h => ?_)
    · rw [if_pos (Or.inl h)] at hE
      exact M_bad X R (by omega) (by omega) hE rfl (fun i' F K => bad i' j F K)
    · refine M_fK L M R h1 rfl ?_
      refine q_lt0 (by (first | exact B31_s (by omega) (by omega) | exact B31_of _ | (constructor <;> omega))) (fun h' => ?_) (fun h' => ?_)
      · rw [if_neg (by omega)] at hE
        rw [hx]
        refine And.intro (eI_in (by omega) (by omega) (by omega)) ?_; (try simp (disch := omega) only [eI_cl, Int.toNat_natCast])
        rw [R.w h1]
        exact M_nxt X ht (R.r (by omega) (by omega)) (fun i' j' R' K' _ => ok i' j' hE hn R' K')
      · rw [if_pos (Or.inr h')] at hE
        exact M_bad X R (by omega) (by omega) hE rfl (fun i' F K => bad i' j F K)
  · (first | refine z0T ?_ | refine z0N ?_)
    rw [if_neg hn] at hE
    exact M_bad X R (by omega) (by omega) hE rfl (fun i' F K => bad i' j F K)
theorem C_newName {e : TXX} {p : Nat} {S : LRS} {r k : RS} (X : TK e) {it i t il gl hl ol d fl : F32} {j hN kN : Nat → Int64} (ht : ∀ q, q < e.2.1 → t q = eI (e.1 q)) (R : CRd e p i) (L : LSk S) (M : CR S it il gl hl ol d fl hN kN) (hE : r = frS e p S k) {Q : Int32 → F32 → (Nat → Int64) → Prop} (ok : ∀ i' j', r = k → nam e p → CRd e (oX e p) i' → j' 7 = eJ (oL e p) → Q 1 i' j') (bad : ∀ i' j', CFl r i' → Q 0 i' j') : w_LineReader_nextNewName i j t hN il kN Q := by
  have hc := L.o.hc
  have hkc := L.o.kc
  have b1 := fH_bd (e := e) (p := p) L
  have b2 := fK_bd (e := e) (p := p) L
  unfold frS at hE
  unfold w_LineReader_nextNewName
  refine C_adv X ht R (fun i1 j1 R1 => ?_)
  refine C_isName X ht R1 hE (fun hE2 hn => ?_) (fun i' F => by (first | refine z0T ?_ | refine z0N ?_); exact bad _ _ F)
  (first | refine z1T ?_ | refine z1N ?_)
  have h1 := hn.1
  have kn : 0 ≤ fH e p S ∨ 0 ≤ fK_ e p S → j_LineReader_nextNewName_49 i1 j1 Q := fun h => by
    unfold j_LineReader_nextNewName_49 j_LineReader_nextNewName_54
    (first | refine z1T ?_ | refine z1N ?_)
    rw [if_pos h] at hE2
    exact C_failHere X R1 (by omega) (by omega) hE2 rfl (fun i' F => by (first | refine z0T ?_ | refine z0N ?_); exact bad _ _ F)
  refine C_fH L M R1 h1 ?_
  refine q_ne (a := fH e p S) (b := -1) (by (first | exact B31_s (by omega) (by omega) | exact B31_of _ | (constructor <;> omega))) (by (first | exact B31_s (by omega) (by omega) | exact B31_of _ | (constructor <;> omega))) (fun h => kn (Or.inl (by omega))) (fun h => ?_)
  refine C_fK L M R1 h1 ?_
  refine q_eq (a := fK_ e p S) (b := -1) (by (first | exact B31_s (by omega) (by omega) | exact B31_of _ | (constructor <;> omega))) (by (first | exact B31_s (by omega) (by omega) | exact B31_of _ | (constructor <;> omega))) (fun h' => ?_) (fun h' => kn (Or.inr (by omega)))
  unfold j_LineReader_nextNewName_54
  (first | refine z0T ?_ | refine z0N ?_)
  rw [if_neg (by omega)] at hE2
  exact ok _ _ hE2 hn (R1.r (by omega) (by omega)) (R1.w h1)
