/-! line: wagon -/
def kiH (h : Nat → Int) (a b c : Int) : Nat → Int := updI (updI (updI (updI h (457 + 3 * (h 3).toNat) a) (457 + 3 * (h 3).toNat + 1) b) (457 + 3 * (h 3).toNat + 2) c) 3 (h 3 + 1)
theorem kiH_1 {h : Nat → Int} {a b c : Int} : kiH h a b c 3 = h 3 + 1 := by unfold kiH; rw [updI_s]
theorem kiH_n {h : Nat → Int} {a b c : Int} {q : Nat} (h1 : q ≠ 3) (h2 : q < 457 + 3 * (h 3).toNat ∨ 457 + 3 * (h 3).toNat + 2 < q) : kiH h a b c q = h q := by
  unfold kiH; rw [updI_n _ (by omega), updI_n _ (by omega), updI_n _ (by omega), updI_n _ (by omega)]
theorem kiH_a {h : Nat → Int} {a b c : Int} : kiH h a b c (457 + 3 * (h 3).toNat) = a := by
  unfold kiH; rw [updI_n _ (by omega), updI_n _ (by omega), updI_n _ (by omega), updI_s]
theorem kiH_b {h : Nat → Int} {a b c : Int} : kiH h a b c (457 + 3 * (h 3).toNat + 1) = b := by
  unfold kiH; rw [updI_n _ (by omega), updI_n _ (by omega), updI_s]
theorem kiH_c {h : Nat → Int} {a b c : Int} : kiH h a b c (457 + 3 * (h 3).toNat + 2) = c := by
  unfold kiH; rw [updI_n _ (by omega), updI_s]
theorem kiH_ok {h : Nat → Int} {a b c : Int} (O : LOk h) (hn : h 3 < 6) (ha : 1 ≤ a ∧ a ≤ 9) (hb : 1 ≤ b ∧ b ≤ 99) (hcc : 1 ≤ c ∧ c ≤ 999) : LOk (kiH h a b c) := by
  have hhc := O.hc
  have hkc := O.kc
  have hfc := O.fc
  have hlc := O.lc
  have f : ∀ q, q ≠ 3 → q < 457 ∨ 475 ≤ q → kiH h a b c q = h q := fun q h1 h2 => kiH_n h1 (by omega)
  have e0 := f 0 (by omega) (by omega)
  have e1 := f 1 (by omega) (by omega)
  have e2 := f 2 (by omega) (by omega)
  have e10 := f 10 (by omega) (by omega)
  have hAT : ∀ k : Nat, (k : Int) < h 1 → AT (kiH h a b c) k = AT h k := fun k hk => f _ (by omega) (by omega)
  have hHL : ∀ k : Nat, (k : Int) < h 1 → HL (kiH h a b c) k = HL h k := fun k hk => f _ (by omega) (by omega)
  have hAD : ∀ k : Nat, (k : Int) < h 1 → AD (kiH h a b c) k = AD h k := fun k hk => by unfold AD; rw [f _ (by omega) (by omega)]
  refine ⟨by rw [e0]; exact O.u, by rw [e1]; exact O.hc, by rw [e2]; exact O.lc, by rw [kiH_1]; omega, by rw [f 4 (by omega) (by omega)]; exact O.pull, by rw [f 5 (by omega) (by omega)]; exact O.eng, by rw [f 6 (by omega) (by omega)]; exact O.rub, by rw [f 7 (by omega) (by omega)]; exact O.sand, by rw [f 8 (by omega) (by omega)]; exact O.wear, by rw [f 9 (by omega) (by omega)]; exact O.walk, by rw [e10]; exact O.fc, fun j hj => ?_, fun k hk => ?_, fun k hk => ?_, fun k hk => ?_, fun j k hjk hk => ?_, fun k hk => ?_, fun k h0 hk => ?_, fun k hk => ?_⟩
  · rw [f _ (by omega) (by omega)]; exact O.gr j hj
  · rw [e1] at hk; rw [hAT k hk, e0]; exact O.at_ k hk
  · rw [e1] at hk; rw [hHL k hk]; exact O.hl k hk
  · rw [e1] at hk
    have := O.ad k hk
    rw [hAD k hk, kiH_1]; omega
  · rw [e1] at hk; rw [hAT k hk, hAT j (by omega)]; exact O.asc j k hjk hk
  · rw [e2] at hk
    rw [e0, f (441 + 2 * k) (by omega) (by omega), f (441 + 2 * k + 1) (by omega) (by omega)]; exact O.lp k hk
  · rw [kiH_1] at hk
    unfold LG WT ST
    by_cases hk2 : k < h 3
    · have := O.kd k h0 hk2
      unfold LG WT ST at this
      rw [kiH_n (by omega) (by omega), kiH_n (by omega) (by omega), kiH_n (by omega) (by omega)]; exact this
    · have t0 : (457 + 3 * k).toNat = 457 + 3 * (h 3).toNat := by omega
      have t1 : (457 + 3 * k + 1).toNat = 457 + 3 * (h 3).toNat + 1 := by omega
      have t2 : (457 + 3 * k + 2).toNat = 457 + 3 * (h 3).toNat + 2 := by omega
      rw [t0, t1, t2, kiH_a, kiH_b, kiH_c]; exact ⟨ha, hb, hcc⟩
  · rw [e10] at hk
    have := O.tr k hk
    rw [f _ (by omega) (by omega), kiH_1]; omega
noncomputable def kiU (S : LRS) (a b c w l : Int) : LRS := (kiH S.h a b c, updI S.nw (26 + (S.h 3).toNat) w, updI S.nl (26 + (S.h 3).toNat) l, S.sl, S.on)
theorem kiU_k {S : LRS} (L : LSk S) {a b c w l : Int} (hn : S.h 3 < 6) (ha : 1 ≤ a ∧ a ≤ 9) (hb : 1 ≤ b ∧ b ≤ 99) (hcc : 1 ≤ c ∧ c ≤ 999) (W : WN w l) : LSk (kiU S a b c w l) := by
  have hc := L.o.hc
  have hkc := L.o.kc
  refine ⟨kiH_ok L.o hn ha hb hcc, L.sl, fun k hk => ?_, fun k hk => ?_, fun h5 => (kiH_n (by omega) (by omega)).trans (L.f5 h5)⟩
  · have hk' : (k : Int) < kiH S.h a b c 1 := hk
    rw [kiH_n (by omega) (by omega)] at hk'
    show WN (updI S.nw (26 + (S.h 3).toNat) w (16 + k)) (updI S.nl (26 + (S.h 3).toNat) l (16 + k))
    rw [updI_n _ (by omega), updI_n _ (by omega)]; exact L.n1 k (by omega)
  · have hk' : (k : Int) < kiH S.h a b c 3 := hk
    rw [kiH_1] at hk'
    show WN (updI S.nw (26 + (S.h 3).toNat) w (26 + k)) (updI S.nl (26 + (S.h 3).toNat) l (26 + k))
    by_cases ek : k = (S.h 3).toNat
    · subst ek; rw [updI_s, updI_s]; exact W
    · rw [updI_n _ (by omega), updI_n _ (by omega)]; exact L.n2 k (by omega)
noncomputable def kiS (e : TXX) (p : Nat) (S : LRS) (k : Nat → LRS → RS) : RS :=
  if S.h 3 = 6 then flt 4 (oP e p) else frS e (oX e p) S (numS e (oX e (oX e p)) 1 9 (numS e (oX e (oX e (oX e p))) 1 99 (numS e (oX e (oX e (oX e (oX e p)))) 1 999 (semS e (oX e (oX e (oX e (oX e (oX e p))))) (k (oX e (oX e (oX e (oX e (oX e (oX e p)))))) (kiU S (oV e (oX e (oX e p))) (oV e (oX e (oX e (oX e p)))) (oV e (oX e (oX e (oX e (oX e p))))) (oW e (oX e p)) (oL e (oX e p))))))))
theorem M_kind_ {e : TXX} {p : Nat} {S : LRS} {r : RS} {k : Nat → LRS → RS} (X : TK e) {i t hA : F32} {j nm rv : Nat → Int64} (ht : ∀ q, q < e.2.1 → t q &&& 255 = eI (e.1 q)) (hrv : RSV rv) (R : RLd e p i j) (h1 : oK e p = 1) (L : LSk S) (M : MR S i hA nm) (hE : r = kiS e p S k) {Q : QRow} (ok : ∀ i' j' p' S' h' nm', r = semS e p' (k (oX e p') S') → LSk S' → RLd e p' i' j' → MR S' i' h' nm' → KLr i i' → Q 1 i' j' h' nm') (bad : ∀ i' j' h' nm', RFl r i' → KLr i i' → Q 0 i' j' h' nm') : w_LongTrainModel_readKind i j hA t rv nm Q := by
  have O := L.o
  have hc := O.hc
  have hkc := O.kc
  unfold kiS at hE
  unfold w_LongTrainModel_readKind
  have hh1 : hA 3 = eI (S.h 3) := by rw [M.h, eF_ap]
  rw [hh1]
  refine q_ne (b := 6) (by (first | exact B31_s (by omega) (by omega) | exact B31_of _ | (constructor <;> omega))) (by (first | exact B31_s (by omega) (by omega) | exact B31_of _ | (constructor <;> omega))) (fun h10 => ?_) (fun h10 => ?_)
  · rw [if_neg h10] at hE
    refine M_nxt X ht (R.r (by omega) (by omega)) (fun i1 j1 R1 K1 _ => ?_)
    have ex : (26 : Int32) + eI (S.h 3) = eI ((26 + (S.h 3).toNat : Nat) : Int) := by (try simp only [eI_lit, eI_neg, eI_add, eI_sub, eI_mul, eF_ap, upd_eF]); congr 1; omega
    rw [ex]
    refine M_fresh X ht hrv R1 L M hE (by omega) rfl (fun i2 j2 hE2 hn R2 K2 => ?_) (fun i2 j2 F K2 => by (first | refine z0T ?_ | refine z0N ?_); exact bad _ _ _ _ F (K1.tr K2).l)
    (first | refine z1T ?_ | refine z1N ?_)
    generalize hnm : vp_updL nm (26 + (S.h 3).toNat) (eJ (oW e (oX e p))) = nm2
    refine M_takes (lo := 1) (hi := 9) X ht R2 (by (first | exact B31_s (by omega) (by omega) | exact B31_of _ | (constructor <;> omega))) (by (first | exact B31_s (by omega) (by omega) | exact B31_of _ | (constructor <;> omega))) hE2 (fun i3 j3 hE3 o3 l3 g3 h18 R3 K3 => ?_) (fun i3 j3 F K3 => by (first | refine z0T ?_ | refine z0N ?_); exact bad _ _ _ _ F ((K1.tr K2).tr K3).l)
    (first | refine z1T ?_ | refine z1N ?_)
    have t0 : (457 : Int32) + 3 * eI (S.h 3) = eI ((457 + 3 * (S.h 3).toNat : Nat) : Int) := by (try simp only [eI_lit, eI_neg, eI_add, eI_sub, eI_mul, eF_ap, upd_eF]); congr 1; omega
    rw [t0]
    refine And.intro (eI_in (by omega) (by omega) (by omega)) ?_; (try simp (disch := omega) only [eI_cl, Int.toNat_natCast])
    refine M_takes (lo := 1) (hi := 99) X ht R3 (by (first | exact B31_s (by omega) (by omega) | exact B31_of _ | (constructor <;> omega))) (by (first | exact B31_s (by omega) (by omega) | exact B31_of _ | (constructor <;> omega))) hE3 (fun i4 j4 hE4 o4 l4 g4 h18' R4 K4 => ?_) (fun i4 j4 F K4 => by (first | refine z0T ?_ | refine z0N ?_); exact bad _ _ _ _ F (((K1.tr K2).tr K3).tr K4).l)
    (first | refine z1T ?_ | refine z1N ?_)
    have t1 : eI ((457 + 3 * (S.h 3).toNat : Nat) : Int) + 1 = eI ((457 + 3 * (S.h 3).toNat + 1 : Nat) : Int) := by (try simp only [eI_lit, eI_neg, eI_add, eI_sub, eI_mul, eF_ap, upd_eF]); congr 1
    have t2 : eI ((457 + 3 * (S.h 3).toNat : Nat) : Int) + 2 = eI ((457 + 3 * (S.h 3).toNat + 2 : Nat) : Int) := by (try simp only [eI_lit, eI_neg, eI_add, eI_sub, eI_mul, eF_ap, upd_eF]); congr 1
    rw [t1, t2]
    refine And.intro (eI_in (by omega) (by omega) (by omega)) ?_; (try simp (disch := omega) only [eI_cl, Int.toNat_natCast])
    refine M_takes (lo := 1) (hi := 999) X ht R4 (by (first | exact B31_s (by omega) (by omega) | exact B31_of _ | (constructor <;> omega))) (by (first | exact B31_s (by omega) (by omega) | exact B31_of _ | (constructor <;> omega))) hE4 (fun i5 j5 hE5 o5 l5 g5 h18'' R5 K5 => ?_) (fun i5 j5 F K5 => by (first | refine z0T ?_ | refine z0N ?_); exact bad _ _ _ _ F ((((K1.tr K2).tr K3).tr K4).tr K5).l)
    (first | refine z1T ?_ | refine z1N ?_)
    refine And.intro (eI_in (by omega) (by omega) (by omega)) ?_; (try simp (disch := omega) only [eI_cl, Int.toNat_natCast])
    rw [h18, h18', h18'', M.h]
    rw [upd_eF, upd_eF, upd_eF, eF_ap, updI_n _ (by omega), updI_n _ (by omega), updI_n _ (by omega)]
    have t4 : eI (S.h 3) + 1 = eI (S.h 3 + 1) := by (try simp only [eI_lit, eI_neg, eI_add, eI_sub, eI_mul, eF_ap, upd_eF])
    rw [t4, upd_eF]
    have KK : KN i i5 := (((K1.tr K2).tr K3).tr K4).tr K5
    refine ok _ _ _ _ _ _ hE5 (kiU_k L (by omega) ⟨l3, g3⟩ ⟨l4, g4⟩ ⟨l5, g5⟩ (oW_n hn.1)) R5 ⟨rfl, by rw [KK.at_ (by omega)]; exact M.sl, by rw [KK.at_ (q := 21) (by omega)]; exact M.on, fun kk hk => ?_, fun kk hk => ?_⟩ KK.l
    · have hk' : (kk : Int) < kiH S.h (oV e (oX e (oX e p))) (oV e (oX e (oX e (oX e p)))) (oV e (oX e (oX e (oX e (oX e p))))) 1 := hk
      rw [kiH_n (by omega) (by omega)] at hk'
      show nm2 (16 + kk) = eJ (updI S.nw (26 + (S.h 3).toNat) (oW e (oX e p)) (16 + kk))
      rw [← hnm, updL_n (by omega), updI_n _ (by omega)]; exact M.n1 kk hk'
    · have hk' : (kk : Int) < kiH S.h (oV e (oX e (oX e p))) (oV e (oX e (oX e (oX e p)))) (oV e (oX e (oX e (oX e (oX e p))))) 3 := hk
      rw [kiH_1] at hk'
      show nm2 (26 + kk) = eJ (updI S.nw (26 + (S.h 3).toNat) (oW e (oX e p)) (26 + kk))
      rw [← hnm]
      by_cases ek : kk = (S.h 3).toNat
      · subst ek; rw [updL_s, updI_s]
      · rw [updL_n (by omega), updI_n _ (by omega)]; exact M.n2 kk (by omega)
  · rw [if_pos h10] at hE
    exact M_bad X R (by omega) (by omega) hE rfl (fun i' F K => bad _ _ _ _ F K.l)
theorem C_kind_ {e : TXX} {p : Nat} {S : LRS} {r : RS} {k : Nat → LRS → RS} (X : TK e) {it i t il gl hl ol d fl : F32} {j hN kN : Nat → Int64} (ht : ∀ q, q < e.2.1 → t q = eI (e.1 q)) (R : CLd e p i j) (h1 : oK e p = 1) (L : LSk S) (M : CR S it il gl hl ol d fl hN kN) (hE : r = kiS e p S k) {Q : QCR} (ok : ∀ it' i' j' il' gl' hN' kN' hl' ol' d' fl' p' S', r = semS e p' (k (oX e p') S') → LSk S' → CRd e p' i' → CR S' it' il' gl' hl' ol' d' fl' hN' kN' → Q 1 it' i' j' il' gl' hN' kN' hl' ol' d' fl') (bad : ∀ it' i' j' il' gl' hN' kN' hl' ol' d' fl', CFl r i' → Q 0 it' i' j' il' gl' hN' kN' hl' ol' d' fl') : w_LineReader_readKind il i j t hN kN d (fun z il' i' j' kN' d' => Q z it i' j' il' gl hN kN' hl ol d' fl) := by
  have O := L.o
  have hc := O.hc
  have hkc := O.kc
  unfold kiS at hE
  unfold w_LineReader_readKind
  rw [M.I.kc]
  refine q_lt (b := 6) (by (first | exact B31_s (by omega) (by omega) | exact B31_of _ | (constructor <;> omega))) (by (first | exact B31_s (by omega) (by omega) | exact B31_of _ | (constructor <;> omega))) (fun h10 => ?_) (fun h10 => ?_)
  · rw [if_neg (by omega)] at hE
    refine C_newName X ht (R.r (by omega) (by omega)) L M hE (fun i2 j2 hE2 hn R2 h7 => ?_) (fun i2 j2 F => by (first | refine z0T ?_ | refine z0N ?_); exact bad _ _ _ _ _ _ _ _ _ _ _ F)
    (first | refine z1T ?_ | refine z1N ?_)
    refine And.intro (eI_in (by omega) (by omega) (by omega)) ?_
    have tn : (eI (S.h 3)).toNatClampNeg = (S.h 3).toNat := eI_cl (by omega) (by omega)
    rw [tn, h7]
    clear tn
    generalize hnm : vp_updL kN (S.h 3).toNat (eJ (oL e (oX e p))) = kN2
    refine C_nextNumber (lo := 1) (hi := 9) X ht R2 (by (first | exact B31_s (by omega) (by omega) | exact B31_of _ | (constructor <;> omega))) (by (first | exact B31_s (by omega) (by omega) | exact B31_of _ | (constructor <;> omega))) hE2 (fun i3 j3 hE3 o3 l3 g3 h63 R3 => ?_) (fun i3 j3 F => by (first | refine z0T ?_ | refine z0N ?_); exact bad _ _ _ _ _ _ _ _ _ _ _ F)
    (first | refine z1T ?_ | refine z1N ?_)
    have t0 : (3 : Int32) * eI (S.h 3) = eI ((3 * (S.h 3).toNat : Nat) : Int) := by (try simp only [eI_lit, eI_neg, eI_add, eI_sub, eI_mul, eF_ap, upd_eF]); congr 1; omega
    rw [t0]
    refine And.intro (eI_in (by omega) (by omega) (by omega)) ?_; (try simp (disch := omega) only [eI_cl, Int.toNat_natCast])
    refine C_nextNumber (lo := 1) (hi := 99) X ht R3 (by (first | exact B31_s (by omega) (by omega) | exact B31_of _ | (constructor <;> omega))) (by (first | exact B31_s (by omega) (by omega) | exact B31_of _ | (constructor <;> omega))) hE3 (fun i4 j4 hE4 o4 l4 g4 h64 R4 => ?_) (fun i4 j4 F => by (first | refine z0T ?_ | refine z0N ?_); exact bad _ _ _ _ _ _ _ _ _ _ _ F)
    (first | refine z1T ?_ | refine z1N ?_)
    have t1 : eI ((3 * (S.h 3).toNat : Nat) : Int) + 1 = eI ((3 * (S.h 3).toNat + 1 : Nat) : Int) := by (try simp only [eI_lit, eI_neg, eI_add, eI_sub, eI_mul, eF_ap, upd_eF]); congr 1
    have t2 : eI ((3 * (S.h 3).toNat : Nat) : Int) + 2 = eI ((3 * (S.h 3).toNat + 2 : Nat) : Int) := by (try simp only [eI_lit, eI_neg, eI_add, eI_sub, eI_mul, eF_ap, upd_eF]); congr 1
    rw [t1, t2]
    refine And.intro (eI_in (by omega) (by omega) (by omega)) ?_; (try simp (disch := omega) only [eI_cl, Int.toNat_natCast])
    refine C_nextNumber (lo := 1) (hi := 999) X ht R4 (by (first | exact B31_s (by omega) (by omega) | exact B31_of _ | (constructor <;> omega))) (by (first | exact B31_s (by omega) (by omega) | exact B31_of _ | (constructor <;> omega))) hE4 (fun i5 j5 hE5 o5 l5 g5 h65 R5 => ?_) (fun i5 j5 F => by (first | refine z0T ?_ | refine z0N ?_); exact bad _ _ _ _ _ _ _ _ _ _ _ F)
    (first | refine z1T ?_ | refine z1N ?_)
    refine And.intro (eI_in (by omega) (by omega) (by omega)) ?_; (try simp (disch := omega) only [eI_cl, Int.toNat_natCast])
    rw [h63, h64, h65]
    have t4 : eI (S.h 3) + 1 = eI (S.h 3 + 1) := by (try simp only [eI_lit, eI_neg, eI_add, eI_sub, eI_mul, eF_ap, upd_eF])
    rw [t4]
    generalize hv1 : oV e (oX e (oX e p)) = v1 at *
    generalize hv2 : oV e (oX e (oX e (oX e p))) = v2 at *
    generalize hv3 : oV e (oX e (oX e (oX e (oX e p)))) = v3 at *
    have f : ∀ q, q ≠ 3 → q < 457 ∨ 475 ≤ q → kiH S.h v1 v2 v3 q = S.h q := fun q a b => kiH_n a (by omega)
    refine ok _ _ _ _ _ _ _ _ _ _ _ _ _ hE5 (kiU_k L (by omega) ⟨l3, g3⟩ ⟨l4, g4⟩ ⟨l5, g5⟩ (oW_n hn.1)) R5 ⟨M.sl, M.on, fun kk hk => ?_, fun kk hk => ?_, M.I.cg (h' := kiH S.h v1 v2 v3) (n := 3) (c := 7) (by omega) kiH_1 (fun q a b => f q b (by omega)) rfl, M.G.cg O (f 0 (by omega) (by omega)) (fun q a b => f q (by omega) (by omega)), M.H.cg O (f 1 (by omega) (by omega)) (fun q a b => f q (by omega) (by omega)), M.O.cg O (f 2 (by omega) (by omega)) (fun q a b => f q (by omega) (by omega)), fun kk hk => ?_, M.F.cg O (f 10 (by omega) (by omega)) (fun q a b => f q (by omega) (by omega))⟩
    · have hk' : (kk : Int) < kiH S.h v1 v2 v3 1 := hk
      rw [kiH_n (by omega) (by omega)] at hk'
      show hN kk = eJ (updI S.nl (26 + (S.h 3).toNat) (oL e (oX e p)) (16 + kk))
      rw [updI_n _ (by omega)]; exact M.n1 kk hk'
    · have hk' : (kk : Int) < kiH S.h v1 v2 v3 3 := hk
      rw [kiH_1] at hk'
      show kN2 kk = eJ (updI S.nl (26 + (S.h 3).toNat) (oL e (oX e p)) (26 + kk))
      rw [← hnm]
      by_cases ek : kk = (S.h 3).toNat
      · subst ek; rw [updL_s, updI_s]
      · rw [updL_n (by omega), updI_n _ (by omega)]; exact M.n2 kk (by omega)
    · have hk' : (kk : Int) < 3 * kiH S.h v1 v2 v3 3 := hk
      rw [kiH_1] at hk'
      show _ = eI (kiH S.h v1 v2 v3 (457 + kk))
      by_cases e0 : kk = 3 * (S.h 3).toNat
      · subst e0; rw [upd_n (by omega), upd_n (by omega), upd_s, kiH_a]
      by_cases e1 : kk = 3 * (S.h 3).toNat + 1
      · subst e1
        have ee : 457 + (3 * (S.h 3).toNat + 1) = 457 + 3 * (S.h 3).toNat + 1 := by omega
        rw [upd_n (by omega), upd_s, ee, kiH_b]
      by_cases e2 : kk = 3 * (S.h 3).toNat + 2
      · subst e2
        have ee : 457 + (3 * (S.h 3).toNat + 2) = 457 + 3 * (S.h 3).toNat + 2 := by omega
        rw [upd_s, ee, kiH_c]
      rw [upd_n (by omega), upd_n (by omega), upd_n (by omega), kiH_n (by omega) (by omega)]
      exact M.D kk (by omega)
  · rw [if_pos (by omega)] at hE
    exact C_failHere X R (by omega) (by omega) hE rfl (fun i' F => bad _ _ _ _ _ _ _ _ _ _ _ F)
