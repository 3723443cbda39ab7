/-! line: halt -/
def haH (h : Nat → Int) (a b : Int) : Nat → Int := updI (updI (updI (updI h (411 + 3 * (h 1).toNat) a) (411 + 3 * (h 1).toNat + 1) b) (411 + 3 * (h 1).toNat + 2) 0) 1 (h 1 + 1)
theorem haH_1 {h : Nat → Int} {a b : Int} : haH h a b 1 = h 1 + 1 := by unfold haH; rw [updI_s]
theorem haH_n {h : Nat → Int} {a b : Int} {q : Nat} (h1 : q ≠ 1) (h2 : q < 411 + 3 * (h 1).toNat ∨ 411 + 3 * (h 1).toNat + 2 < q) : haH h a b q = h q := by
  unfold haH; rw [updI_n _ (by omega), updI_n _ (by omega), updI_n _ (by omega), updI_n _ (by omega)]
theorem haH_a {h : Nat → Int} {a b : Int} : haH h a b (411 + 3 * (h 1).toNat) = a := by
  unfold haH; rw [updI_n _ (by omega), updI_n _ (by omega), updI_n _ (by omega), updI_s]
theorem haH_b {h : Nat → Int} {a b : Int} : haH h a b (411 + 3 * (h 1).toNat + 1) = b := by
  unfold haH; rw [updI_n _ (by omega), updI_n _ (by omega), updI_s]
theorem haH_c {h : Nat → Int} {a b : Int} : haH h a b (411 + 3 * (h 1).toNat + 2) = 0 := by
  unfold haH; rw [updI_n _ (by omega), updI_s]
def loH (h : Nat → Int) : Int := if h 1 = 0 then 0 else h (411 + 3 * (h 1).toNat - 3) + 1
theorem haH_AT {h : Nat → Int} {a b : Int} (O : LOk h) (k : Nat) (hk : (k : Int) < h 1 + 1) : ((k : Int) < h 1 ∧ AT (haH h a b) k = AT h k ∧ HL (haH h a b) k = HL h k ∧ AD (haH h a b) k = AD h k) ∨ (k = (h 1).toNat ∧ AT (haH h a b) k = a ∧ HL (haH h a b) k = b ∧ AD (haH h a b) k = -1) := by
  have hc := O.hc
  unfold AT HL AD
  have t0 : (411 + 3 * (k : Int)).toNat = 411 + 3 * k := by omega
  have t1 : (411 + 3 * (k : Int) + 1).toNat = 411 + 3 * k + 1 := by omega
  have t2 : (411 + 3 * (k : Int) + 2).toNat = 411 + 3 * k + 2 := by omega
  rw [t0, t1, t2]
  by_cases h1 : (k : Int) < h 1
  · refine Or.inl ⟨h1, haH_n (by omega) (by omega), haH_n (by omega) (by omega), by rw [haH_n (by omega) (by omega)]⟩
  · have ek : k = (h 1).toNat := by omega
    refine Or.inr ⟨ek, ?_, ?_, ?_⟩
    · rw [ek]; exact haH_a
    · rw [ek]; exact haH_b
    · rw [ek, haH_c]; rfl
theorem loH_sp {h : Nat → Int} (O : LOk h) : 0 ≤ loH h ∧ loH h ≤ 400 ∧ ∀ k : Nat, (k : Int) < h 1 → AT h k < loH h := by
  have hc := O.hc
  have hu := O.u
  unfold loH
  by_cases h0 : h 1 = 0
  · rw [if_pos h0]; exact ⟨by omega, by omega, fun k hk => by omega⟩
  · rw [if_neg h0]
    have e1 : h (411 + 3 * (h 1).toNat - 3) = AT h (((h 1).toNat - 1 : Nat) : Int) := by unfold AT; congr 1; omega
    rw [e1]
    have a1 := O.at_ ((h 1).toNat - 1) (by omega)
    refine ⟨by omega, by omega, fun k hk => ?_⟩
    by_cases ek : k = (h 1).toNat - 1
    · subst ek; omega
    · have := O.asc k ((h 1).toNat - 1) (by omega) (by omega); omega
theorem haH_ok {h : Nat → Int} {a b : Int} (O : LOk h) (hn : h 1 < 10) (ha : loH h ≤ a ∧ a ≤ h 0 - 1) (hb : 1 ≤ b ∧ b ≤ 99) : LOk (haH h a b) := by
  have hc := O.hc
  have hkc := O.kc
  have hlo := loH_sp O
  have f : ∀ q, q ≠ 1 → q < 411 ∨ 441 ≤ q → haH h a b q = h q := fun q h1 h2 => haH_n h1 (by omega)
  have e0 := f 0 (by omega) (by omega)
  have e2 := f 2 (by omega) (by omega)
  have e3 := f 3 (by omega) (by omega)
  have e10 := f 10 (by omega) (by omega)
  refine ⟨by rw [e0]; exact O.u, by rw [haH_1]; omega, by rw [e2]; exact O.lc, by rw [e3]; exact O.kc, by rw [f 4 (by omega) (by omega)]; exact O.pull, by rw [f 5 (by omega) (by omega)]; exact O.eng, by rw [f 6 (by omega) (by omega)]; exact O.rub, by rw [f 7 (by omega) (by omega)]; exact O.sand, by rw [f 8 (by omega) (by omega)]; exact O.wear, by rw [f 9 (by omega) (by omega)]; exact O.walk, by rw [e10]; exact O.fc, fun j hj => ?_, fun k hk => ?_, fun k hk => ?_, fun k hk => ?_, fun j k hjk hk => ?_, fun k hk => ?_, fun k h0 hk => ?_, fun k hk => ?_⟩
  · rw [f _ (by omega) (by omega)]; exact O.gr j hj
  · rw [haH_1] at hk
    rcases haH_AT (a := a) (b := b) O k hk with ⟨h1, q1, q2, q3⟩ | ⟨h1, q1, q2, q3⟩
    · rw [q1, e0]; exact O.at_ k h1
    · rw [q1, e0]; omega
  · rw [haH_1] at hk
    rcases haH_AT (a := a) (b := b) O k hk with ⟨h1, q1, q2, q3⟩ | ⟨h1, q1, q2, q3⟩
    · rw [q2]; exact O.hl k h1
    · rw [q2]; exact hb
  · rw [haH_1] at hk
    rcases haH_AT (a := a) (b := b) O k hk with ⟨h1, q1, q2, q3⟩ | ⟨h1, q1, q2, q3⟩
    · rw [q3, e3]; exact O.ad k h1
    · rw [q3, e3]; omega
  · rw [haH_1] at hk
    rcases haH_AT (a := a) (b := b) O j (by omega) with ⟨j1, p1, p2, p3⟩ | ⟨j1, p1, p2, p3⟩
    · rcases haH_AT (a := a) (b := b) O k hk with ⟨h1, q1, q2, q3⟩ | ⟨h1, q1, q2, q3⟩
      · rw [p1, q1]; exact O.asc j k hjk h1
      · rw [p1, q1]
        have := hlo.2.2 j j1
        omega
    · omega
  · rw [e2] at hk
    have hlc := O.lc
    rw [e0, f (441 + 2 * k) (by omega) (by omega), f (441 + 2 * k + 1) (by omega) (by omega)]; exact O.lp k hk
  · rw [e3] at hk
    have := O.kd k h0 hk
    unfold LG WT ST at *
    rw [f _ (by omega) (by omega), f _ (by omega) (by omega), f _ (by omega) (by omega)]; exact this
  · rw [e10] at hk
    rw [f _ (by omega) (by omega), e3]; exact O.tr k hk
noncomputable def haU (S : LRS) (a b w l : Int) : LRS := (haH S.h a b, updI S.nw (16 + (S.h 1).toNat) w, updI S.nl (16 + (S.h 1).toNat) l, S.sl, S.on)
theorem haU_k {S : LRS} (L : LSk S) {a b w l : Int} (hn : S.h 1 < 10) (ha : loH S.h ≤ a ∧ a ≤ S.h 0 - 1) (hb : 1 ≤ b ∧ b ≤ 99) (W : WN w l) : LSk (haU S a b w l) := by
  have hc := L.o.hc
  have hkc := L.o.kc
  refine ⟨haH_ok L.o hn ha hb, L.sl, fun k hk => ?_, fun k hk => ?_, fun h5 => (haH_n (by omega) (by omega)).trans (L.f5 h5)⟩
  · have hk' : (k : Int) < haH S.h a b 1 := hk
    rw [haH_1] at hk'
    show WN (updI S.nw (16 + (S.h 1).toNat) w (16 + k)) (updI S.nl (16 + (S.h 1).toNat) l (16 + k))
    by_cases ek : k = (S.h 1).toNat
    · subst ek; rw [updI_s, updI_s]; exact W
    · rw [updI_n _ (by omega), updI_n _ (by omega)]; exact L.n1 k (by omega)
  · have hk' : (k : Int) < haH S.h a b 3 := hk
    rw [haH_n (by omega) (by omega)] at hk'
    show WN (updI S.nw (16 + (S.h 1).toNat) w (26 + k)) (updI S.nl (16 + (S.h 1).toNat) l (26 + k))
    rw [updI_n _ (by omega), updI_n _ (by omega)]; exact L.n2 k (by omega)
noncomputable def hlS (e : TXX) (p : Nat) (S : LRS) (k : Nat → LRS → RS) : RS :=
  if S.h 1 = 10 then flt 4 (oP e p) else frS e (oX e p) S (numS e (oX e (oX e p)) (loH S.h) (S.h 0 - 1) (numS e (oX e (oX e (oX e p))) 1 99 (semS e (oX e (oX e (oX e (oX e p)))) (k (oX e (oX e (oX e (oX e (oX e p))))) (haU S (oV e (oX e (oX e p))) (oV e (oX e (oX e (oX e p)))) (oW e (oX e p)) (oL e (oX e p)))))))
theorem updL_n {f : Nat → Int64} {k q : Nat} {x : Int64} (h : q ≠ k) : vp_updL f k x q = f q := by simp [vp_updL, h]
theorem M_halt_ {e : TXX} {p : Nat} {S : LRS} {r : RS} {k : Nat → LRS → RS} (X : TK e) {i t hA : F32} {j nm rv : Nat → Int64} (ht : ∀ q, q < e.2.1 → t q &&& 255 = eI (e.1 q)) (hrv : RSV rv) (R : RLd e p i j) (h1 : oK e p = 1) (L : LSk S) (M : MR S i hA nm) (hE : r = hlS e p S k) {Q : QRow} (ok : ∀ i' j' p' S' h' nm', r = semS e p' (k (oX e p') S') → LSk S' → RLd e p' i' j' → MR S' i' h' nm' → KLr i i' → Q 1 i' j' h' nm') (bad : ∀ i' j' h' nm', RFl r i' → KLr i i' → Q 0 i' j' h' nm') : w_LongTrainModel_readHalt i j hA t rv nm Q := by
  have O := L.o
  have hc := O.hc
  have hkc := O.kc
  have hu := O.u
  have hlo := loH_sp O
  unfold hlS at hE
  unfold w_LongTrainModel_readHalt
  have hh1 : hA 1 = eI (S.h 1) := by rw [M.h, eF_ap]
  have hh0 : hA 0 = eI (S.h 0) := by rw [M.h, eF_ap]
  rw [hh1]
  refine q_ne (b := 10) (by (first | exact B31_s (by omega) (by omega) | exact B31_of _ | (constructor <;> omega))) (by (first | exact B31_s (by omega) (by omega) | exact B31_of _ | (constructor <;> omega))) (fun h10 => ?_) (fun h10 => ?_)
  · rw [if_neg h10] at hE
    refine M_nxt X ht (R.r (by omega) (by omega)) (fun i1 j1 R1 K1 _ => ?_)
    have ex : (16 : Int32) + eI (S.h 1) = eI ((16 + (S.h 1).toNat : Nat) : Int) := by (try simp only [eI_lit, eI_neg, eI_add, eI_sub, eI_mul, eF_ap, upd_eF]); congr 1; omega
    rw [ex]
    refine M_fresh X ht hrv R1 L M hE (by omega) rfl (fun i2 j2 hE2 hn R2 K2 => ?_) (fun i2 j2 F K2 => by (first | refine z0T ?_ | refine z0N ?_); exact bad _ _ _ _ F (K1.tr K2).l)
    (first | refine z1T ?_ | refine z1N ?_)
    generalize hnm : vp_updL nm (16 + (S.h 1).toNat) (eJ (oW e (oX e p))) = nm2
    have main : j_LongTrainModel_readHalt_61 i2 j2 hA t nm2 (eI (S.h 1)) (eI (loH S.h)) Q := by
      unfold j_LongTrainModel_readHalt_61
      rw [hh0]
      have e1 : eI (S.h 0) - 1 = eI (S.h 0 - 1) := by (try simp only [eI_lit, eI_neg, eI_add, eI_sub, eI_mul, eF_ap, upd_eF])
      rw [e1]
      refine M_takes X ht R2 (by (first | exact B31_s (by omega) (by omega) | exact B31_of _ | (constructor <;> omega))) (by (first | exact B31_s (by omega) (by omega) | exact B31_of _ | (constructor <;> omega))) hE2 (fun i3 j3 hE3 o3 l3 g3 h18 R3 K3 => ?_) (fun i3 j3 F K3 => by (first | refine z0T ?_ | refine z0N ?_); exact bad _ _ _ _ F ((K1.tr K2).tr K3).l)
      (first | refine z1T ?_ | refine z1N ?_)
      have t0 : (411 : Int32) + 3 * eI (S.h 1) = eI ((411 + 3 * (S.h 1).toNat : Nat) : Int) := by (try simp only [eI_lit, eI_neg, eI_add, eI_sub, eI_mul, eF_ap, upd_eF]); congr 1; omega
      rw [t0]
      refine And.intro (eI_in (by omega) (by omega) (by omega)) ?_; (try simp (disch := omega) only [eI_cl, Int.toNat_natCast])
      refine M_takes (lo := 1) (hi := 99) X ht R3 (by (first | exact B31_s (by omega) (by omega) | exact B31_of _ | (constructor <;> omega))) (by (first | exact B31_s (by omega) (by omega) | exact B31_of _ | (constructor <;> omega))) hE3 (fun i4 j4 hE4 o4 l4 g4 h18' R4 K4 => ?_) (fun i4 j4 F K4 => by (first | refine z0T ?_ | refine z0N ?_); exact bad _ _ _ _ F (((K1.tr K2).tr K3).tr K4).l)
      (first | refine z1T ?_ | refine z1N ?_)
      have t1 : eI ((411 + 3 * (S.h 1).toNat : Nat) : Int) + 1 = eI ((411 + 3 * (S.h 1).toNat + 1 : Nat) : Int) := by (try simp only [eI_lit, eI_neg, eI_add, eI_sub, eI_mul, eF_ap, upd_eF]); congr 1
      have t2 : eI ((411 + 3 * (S.h 1).toNat : Nat) : Int) + 2 = eI ((411 + 3 * (S.h 1).toNat + 2 : Nat) : Int) := by (try simp only [eI_lit, eI_neg, eI_add, eI_sub, eI_mul, eF_ap, upd_eF]); congr 1
      rw [t1, t2]
      refine And.intro (eI_in (by omega) (by omega) (by omega)) ?_
      refine And.intro (eI_in (by omega) (by omega) (by omega)) ?_
      (try simp (disch := omega) only [eI_cl, Int.toNat_natCast])
      rw [h18, h18', M.h]
      have t3 : (0 : Int32) = eI 0 := rfl
      rw [t3, upd_eF, upd_eF, upd_eF, eF_ap, updI_n _ (by omega), updI_n _ (by omega), updI_n _ (by omega)]
      have t4 : eI (S.h 1) + 1 = eI (S.h 1 + 1) := by (try simp only [eI_lit, eI_neg, eI_add, eI_sub, eI_mul, eF_ap, upd_eF])
      rw [t4, upd_eF]
      have KK : KN i i4 := ((K1.tr K2).tr K3).tr K4
      refine ok _ _ _ _ _ _ hE4 (haU_k L (by omega) ⟨l3, g3⟩ ⟨l4, g4⟩ (oW_n hn.1)) R4 ⟨rfl, by rw [KK.at_ (by omega)]; exact M.sl, by rw [KK.at_ (q := 21) (by omega)]; exact M.on, fun kk hk => ?_, fun kk hk => ?_⟩ KK.l
      · have hk' : (kk : Int) < haH S.h (oV e (oX e (oX e p))) (oV e (oX e (oX e (oX e p)))) 1 := hk
        rw [haH_1] at hk'
        show nm2 (16 + kk) = eJ (updI S.nw (16 + (S.h 1).toNat) (oW e (oX e p)) (16 + kk))
        rw [← hnm]
        by_cases ek : kk = (S.h 1).toNat
        · subst ek; rw [updL_s, updI_s]
        · rw [updL_n (by omega), updI_n _ (by omega)]; exact M.n1 kk (by omega)
      · have hk' : (kk : Int) < haH S.h (oV e (oX e (oX e p))) (oV e (oX e (oX e (oX e p)))) 3 := hk
        rw [haH_n (by omega) (by omega)] at hk'
        show nm2 (26 + kk) = eJ (updI S.nw (16 + (S.h 1).toNat) (oW e (oX e p)) (26 + kk))
        rw [← hnm, updL_n (by omega), updI_n _ (by omega)]; exact M.n2 kk hk'
    refine q_ne (b := 0) (by (first | exact B31_s (by omega) (by omega) | exact B31_of _ | (constructor <;> omega))) (by (first | exact B31_s (by omega) (by omega) | exact B31_of _ | (constructor <;> omega))) (fun hne => ?_) (fun he => ?_)
    · have t0 : (411 : Int32) + 3 * eI (S.h 1) - 3 = eI ((411 + 3 * (S.h 1).toNat - 3 : Nat) : Int) := by (try simp only [eI_lit, eI_neg, eI_add, eI_sub, eI_mul, eF_ap, upd_eF]); congr 1; omega
      rw [t0]
      refine And.intro (eI_in (by omega) (by omega) (by omega)) ?_; (try simp (disch := omega) only [eI_cl, Int.toNat_natCast])
      have e2 : hA (411 + 3 * (S.h 1).toNat - 3) + 1 = eI (loH S.h) := by
        unfold loH
        rw [M.h, if_neg hne, eF_ap]; (try simp only [eI_lit, eI_neg, eI_add, eI_sub, eI_mul, eF_ap, upd_eF])
      rw [e2]; exact main
    · have e2 : (0 : Int32) = eI (loH S.h) := by unfold loH; rw [if_pos he]; rfl
      rw [e2]; exact main
  · rw [if_pos h10] at hE
    exact M_bad X R (by omega) (by omega) hE rfl (fun i' F K => bad _ _ _ _ F K.l)
