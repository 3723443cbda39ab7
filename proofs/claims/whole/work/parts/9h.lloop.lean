/-! line: loop -/
def opH (h : Nat → Int) (a b : Int) : Nat → Int := updI (updI (updI h (441 + 2 * (h 2).toNat) a) (441 + 2 * (h 2).toNat + 1) b) 2 (h 2 + 1)
theorem opH_1 {h : Nat → Int} {a b : Int} : opH h a b 2 = h 2 + 1 := by unfold opH; rw [updI_s]
theorem opH_n {h : Nat → Int} {a b : Int} {q : Nat} (h1 : q ≠ 2) (h2 : q < 441 + 2 * (h 2).toNat ∨ 441 + 2 * (h 2).toNat + 1 < q) : opH h a b q = h q := by
  unfold opH; rw [updI_n _ (by omega), updI_n _ (by omega), updI_n _ (by omega)]
theorem opH_a {h : Nat → Int} {a b : Int} : opH h a b (441 + 2 * (h 2).toNat) = a := by
  unfold opH; rw [updI_n _ (by omega), updI_n _ (by omega), updI_s]
theorem opH_b {h : Nat → Int} {a b : Int} : opH h a b (441 + 2 * (h 2).toNat + 1) = b := by
  unfold opH; rw [updI_n _ (by omega), updI_s]
theorem opH_ok {h : Nat → Int} {a b : Int} (O : LOk h) (hn : h 2 < 8) (ha : 0 ≤ a ∧ a ≤ h 0 - 1) (hb : 1 ≤ b ∧ b ≤ 99) : LOk (opH h a b) := by
  have hhc := O.hc
  have hkc := O.kc
  have hfc := O.fc
  have hlc := O.lc
  have f : ∀ q, q ≠ 2 → q < 441 ∨ 457 ≤ q → opH h a b q = h q := fun q h1 h2 => opH_n h1 (by omega)
  have e0 := f 0 (by omega) (by omega)
  have e1 := f 1 (by omega) (by omega)
  have e3 := f 3 (by omega) (by omega)
  have e10 := f 10 (by omega) (by omega)
  have hAT : ∀ k : Nat, (k : Int) < h 1 → AT (opH h a b) k = AT h k := fun k hk => f _ (by omega) (by omega)
  have hHL : ∀ k : Nat, (k : Int) < h 1 → HL (opH h a b) k = HL h k := fun k hk => f _ (by omega) (by omega)
  have hAD : ∀ k : Nat, (k : Int) < h 1 → AD (opH h a b) k = AD h k := fun k hk => by unfold AD; rw [f _ (by omega) (by omega)]
  refine ⟨by rw [e0]; exact O.u, by rw [e1]; exact O.hc, by rw [opH_1]; omega, by rw [e3]; exact O.kc, by rw [f 4 (by omega) (by omega)]; exact O.pull, by rw [f 5 (by omega) (by omega)]; exact O.eng, by rw [f 6 (by omega) (by omega)]; exact O.rub, by rw [f 7 (by omega) (by omega)]; exact O.sand, by rw [f 8 (by omega) (by omega)]; exact O.wear, by rw [f 9 (by omega) (by omega)]; exact O.walk, by rw [e10]; exact O.fc, fun j hj => ?_, fun k hk => ?_, fun k hk => ?_, fun k hk => ?_, fun j k hjk hk => ?_, fun k hk => ?_, fun k h0 hk => ?_, fun k hk => ?_⟩
  · rw [f _ (by omega) (by omega)]; exact O.gr j hj
  · rw [e1] at hk; rw [hAT k hk, e0]; exact O.at_ k hk
  · rw [e1] at hk; rw [hHL k hk]; exact O.hl k hk
  · rw [e1] at hk; rw [hAD k hk, e3]; exact O.ad k hk
  · rw [e1] at hk; rw [hAT k hk, hAT j (by omega)]; exact O.asc j k hjk hk
  · rw [opH_1] at hk
    by_cases hk2 : (k : Int) < h 2
    · rw [e0, opH_n (q := 441 + 2 * k) (by omega) (by omega), opH_n (q := 441 + 2 * k + 1) (by omega) (by omega)]; exact O.lp k hk2
    · have ek : k = (h 2).toNat := by omega
      subst ek
      rw [e0, opH_a, opH_b]; omega
  · rw [e3] at hk
    have := O.kd k h0 hk
    unfold LG WT ST at *
    rw [f _ (by omega) (by omega), f _ (by omega) (by omega), f _ (by omega) (by omega)]; exact this
  · rw [e10] at hk
    rw [f _ (by omega) (by omega), e3]; exact O.tr k hk
noncomputable def opU (S : LRS) (a b : Int) : LRS := (opH S.h a b, S.nw, S.nl, S.sl, S.on)
theorem opU_k {S : LRS} (L : LSk S) {a b : Int} (hn : S.h 2 < 8) (ha : 0 ≤ a ∧ a ≤ S.h 0 - 1) (hb : 1 ≤ b ∧ b ≤ 99) : LSk (opU S a b) := by
  refine ⟨opH_ok L.o hn ha hb, L.sl, fun k hk => L.n1 k ?_, fun k hk => L.n2 k ?_, fun h5 => (opH_n (by omega) (by omega)).trans (L.f5 h5)⟩
  · have hk' : (k : Int) < opH S.h a b 1 := hk
    rw [opH_n (by omega) (by omega)] at hk'; exact hk'
  · have hk' : (k : Int) < opH S.h a b 3 := hk
    rw [opH_n (by omega) (by omega)] at hk'; exact hk'
noncomputable def dupL (S : LRS) (v : Int) : Nat := hidF (fun (S : LRS) (v : Int) => lf (fun i => S.h (441 + 2 * i) = v) (S.h 2).toNat) S v
theorem dupL_d (S : LRS) (v : Int) : dupL S v = lf (fun i => S.h (441 + 2 * i) = v) (S.h 2).toNat := hidF_2 _ S v
noncomputable def loS (e : TXX) (p : Nat) (S : LRS) (k : Nat → LRS → RS) : RS :=
  if S.h 2 = 8 then flt 4 (oP e p) else numS e (oX e p) 0 (S.h 0 - 1) (if dupL S (oV e (oX e p)) < (S.h 2).toNat then flt 3 (oP e (oX e p)) else numS e (oX e (oX e p)) 1 99 (semS e (oX e (oX e (oX e p))) (k (oX e (oX e (oX e (oX e p)))) (opU S (oV e (oX e p)) (oV e (oX e (oX e p)))))))
theorem M_loop_ {e : TXX} {p : Nat} {S : LRS} {r : RS} {k : Nat → LRS → RS} (X : TK e) {i t hA : F32} {j nm : Nat → Int64} (ht : ∀ q, q < e.2.1 → t q &&& 255 = eI (e.1 q)) (R : RLd e p i j) (h1 : oK e p = 1) (L : LSk S) (M : MR S i hA nm) (hE : r = loS e p S k) {Q : QRow} (ok : ∀ i' j' p' S' h' nm', r = semS e p' (k (oX e p') S') → LSk S' → RLd e p' i' j' → MR S' i' h' nm' → KLr i i' → Q 1 i' j' h' nm') (bad : ∀ i' j' h' nm', RFl r i' → KLr i i' → Q 0 i' j' h' nm') : w_LongTrainModel_readLoop i j hA t (fun z i' j' h' => Q z i' j' h' nm) := by
  have O := L.o
  have hlc := O.lc
  have hu := O.u
  unfold loS at hE
  unfold w_LongTrainModel_readLoop
  have hh2 : hA 2 = eI (S.h 2) := by rw [M.h, eF_ap]
  have hh0 : hA 0 = eI (S.h 0) := by rw [M.h, eF_ap]
  rw [hh2]
  refine q_ne (b := 8) (by (first | exact B31_s (by omega) (by omega) | exact B31_of _ | (constructor <;> omega))) (by (first | exact B31_s (by omega) (by omega) | exact B31_of _ | (constructor <;> omega))) (fun h10 => ?_) (fun h10 => ?_)
  · rw [if_neg h10] at hE
    refine M_nxt X ht (R.r (by omega) (by omega)) (fun i1 j1 R1 K1 _ => ?_)
    have hs := rso_1 (e := e) (oK_le e (oX e p))
    unfold numS at hE
    rw [R1.s]
    refine q_eq (b := 2) (by (first | exact B31_s (by omega) (by omega) | exact B31_of _ | (constructor <;> omega))) (by (first | exact B31_s (by omega) (by omega) | exact B31_of _ | (constructor <;> omega))) (fun h2 => ?_) (fun h2 => ?_)
    · have hk2 : oK e (oX e p) = 2 := hs.2.1.mp h2
      have hv := oV_bd hk2
      rw [if_neg (by omega)] at hE
      rw [R1.v hk2, hh0]
      refine q_lt (by (first | exact B31_s (by omega) (by omega) | exact B31_of _ | (constructor <;> omega))) (by (first | exact B31_s (by omega) (by omega) | exact B31_of _ | (constructor <;> omega))) (fun hlt => ?_) (fun hge => ?_)
      · rw [if_neg (by omega)] at hE
        generalize hv1 : oV e (oX e p) = v1 at *
        have R1v : i1 14 = eI v1 := by rw [R1.v hk2, hv1]
        have en : S.h 2 = (((S.h 2).toNat : Nat) : Int) := by omega
        have t0 : (441 : Int32) + 2 * eI (S.h 2) = eI ((441 + 2 * (S.h 2).toNat : Nat) : Int) := by (try simp only [eI_lit, eI_neg, eI_add, eI_sub, eI_mul, eF_ap, upd_eF]); congr 1; omega
        rw [t0]
        refine lg_LongTrainModel_readLoop_58 (G := Nat) (fun q x => q ≤ (S.h 2).toNat ∧ x = eI ((q : Nat) : Int) ∧ ∀ q', q' < q → S.h (441 + 2 * q') ≠ v1) (fun q => (S.h 2).toNat - q) ?_ 0 ⟨by omega, rfl, fun q hq => absurd hq (Nat.not_lt_zero _)⟩
        rintro kr q x ⟨hq, rfl, hall⟩ hst
        unfold b_LongTrainModel_readLoop_58
        refine q_le (by (first | exact B31_s (by omega) (by omega) | exact B31_of _ | (constructor <;> omega))) (by (first | exact B31_s (by omega) (by omega) | exact B31_of _ | (constructor <;> omega))) (fun hle => ?_) (fun hlt2 => ?_)
        · have ed : dupL S v1 = (S.h 2).toNat := by rw [dupL_d]; exact lf_eq (by omega) (fun q' hq' => hall q' (by omega)) (fun h => by omega)
          rw [ed, if_neg (by omega)] at hE
          refine And.intro (eI_in (by omega) (by omega) (by omega)) ?_; (try simp (disch := omega) only [eI_cl, Int.toNat_natCast])
          rw [M.h, upd_eF]
          refine M_nxt X ht (R1.r (by omega) (by omega)) (fun i2 j2 R2 K2 _ => ?_)
          refine M_takes (lo := 1) (hi := 99) X ht R2 (by (first | exact B31_s (by omega) (by omega) | exact B31_of _ | (constructor <;> omega))) (by (first | exact B31_s (by omega) (by omega) | exact B31_of _ | (constructor <;> omega))) hE (fun i3 j3 hE3 o3 l3 g3 h18 R3 K3 => ?_) (fun i3 j3 F K3 => by (first | refine z0T ?_ | refine z0N ?_); exact bad _ _ _ _ F ((K1.tr K2).tr K3).l)
          (first | refine z1T ?_ | refine z1N ?_)
          have t1 : eI ((441 + 2 * (S.h 2).toNat : Nat) : Int) + 1 = eI ((441 + 2 * (S.h 2).toNat + 1 : Nat) : Int) := by (try simp only [eI_lit, eI_neg, eI_add, eI_sub, eI_mul, eF_ap, upd_eF]); congr 1
          rw [t1]
          refine And.intro (eI_in (by omega) (by omega) (by omega)) ?_; (try simp (disch := omega) only [eI_cl, Int.toNat_natCast])
          rw [h18, upd_eF, eF_ap, updI_n _ (by omega), updI_n _ (by omega)]
          have t4 : eI (S.h 2) + 1 = eI (S.h 2 + 1) := by (try simp only [eI_lit, eI_neg, eI_add, eI_sub, eI_mul, eF_ap, upd_eF])
          rw [t4, upd_eF]
          have KK : KN i i3 := (K1.tr K2).tr K3
          refine ok _ _ _ _ _ _ hE3 (opU_k L (by omega) ⟨by omega, by omega⟩ ⟨l3, g3⟩) R3 ⟨rfl, by rw [KK.at_ (by omega)]; exact M.sl, by rw [KK.at_ (q := 21) (by omega)]; exact M.on, fun kk hk => M.n1 kk ?_, fun kk hk => M.n2 kk ?_⟩ KK.l
          · have hk' : (kk : Int) < opH S.h v1 (oV e (oX e (oX e p))) 1 := hk
            rw [opH_n (by omega) (by omega)] at hk'; exact hk'
          · have hk' : (kk : Int) < opH S.h v1 (oV e (oX e (oX e p))) 3 := hk
            rw [opH_n (by omega) (by omega)] at hk'; exact hk'
        · have t5 : (441 : Int32) + 2 * eI (q : Int) = eI ((441 + 2 * q : Nat) : Int) := by (try simp only [eI_lit, eI_neg, eI_add, eI_sub, eI_mul, eF_ap, upd_eF]); congr 1
          rw [t5]
          refine And.intro (eI_in (by omega) (by omega) (by omega)) ?_; (try simp (disch := omega) only [eI_cl, Int.toNat_natCast])
          rw [R1v, M.h, eF_ap]
          have hlp := O.lp q (by omega)
          refine q_ne (by (first | exact B31_s (by omega) (by omega) | exact B31_of _ | (constructor <;> omega))) (by (first | exact B31_s (by omega) (by omega) | exact B31_of _ | (constructor <;> omega))) (fun hne => ?_) (fun he => ?_)
          · refine hst (q + 1) _ (by omega) ⟨by omega, by (try simp only [eI_lit, eI_neg, eI_add, eI_sub, eI_mul, eF_ap, upd_eF]); congr 1, fun q' hq' => ?_⟩
            by_cases e1 : q' = q
            · subst e1; exact hne
            · exact hall q' (by omega)
          · have ed : dupL S v1 = q := by rw [dupL_d]; exact lf_eq (by omega) hall (fun _ => he)
            rw [ed, if_pos (by omega)] at hE
            rw [← M.h]
            exact M_bad X R1 (by omega) (by omega) hE rfl (fun i' F K => bad _ _ _ _ F (K1.tr K).l)
      · rw [if_pos (by omega)] at hE
        exact M_bad X R1 (by omega) (by omega) hE rfl (fun i' F K => bad _ _ _ _ F (K1.tr K).l)
    · have hk2 : oK e (oX e p) ≠ 2 := fun h => h2 (hs.2.1.mpr h)
      rw [if_pos hk2] at hE
      exact M_bad X R1 (by omega) (by omega) hE rfl (fun i' F K => bad _ _ _ _ F (K1.tr K).l)
  · rw [if_pos h10] at hE
    exact M_bad X R (by omega) (by omega) hE rfl (fun i' F K => bad _ _ _ _ F K.l)
theorem C_loop_ {e : TXX} {p : Nat} {S : LRS} {r : RS} {k : Nat → LRS → RS} (X : TK e) {it i t il gl hl ol d fl : F32} {j hN kN : Nat → Int64} (ht : ∀ q, q < e.2.1 → t q = eI (e.1 q)) (R : CLd e p i j) (h1 : oK e p = 1) (L : LSk S) (M : CR S it il gl hl ol d fl hN kN) (hE : r = loS e p S k) {Q : QCR} (ok : ∀ it' i' j' il' gl' hN' kN' hl' ol' d' fl' p' S', r = semS e p' (k (oX e p') S') → LSk S' → CRd e p' i' → CR S' it' il' gl' hl' ol' d' fl' hN' kN' → Q 1 it' i' j' il' gl' hN' kN' hl' ol' d' fl') (bad : ∀ it' i' j' il' gl' hN' kN' hl' ol' d' fl', CFl r i' → Q 0 it' i' j' il' gl' hN' kN' hl' ol' d' fl') : w_LineReader_readLoop il i j t ol (fun z il' i' j' ol' => Q z it i' j' il' gl hN kN hl ol' d fl) := by
  have O := L.o
  have hlc := O.lc
  have hu := O.u
  unfold loS at hE
  unfold w_LineReader_readLoop
  rw [M.I.lc]
  refine q_lt (b := 8) (by (first | exact B31_s (by omega) (by omega) | exact B31_of _ | (constructor <;> omega))) (by (first | exact B31_s (by omega) (by omega) | exact B31_of _ | (constructor <;> omega))) (fun h10 => ?_) (fun h10 => ?_)
  · rw [if_neg (by omega)] at hE
    rw [M.I.u]
    have e1 : eI (S.h 0) - 1 = eI (S.h 0 - 1) := by (try simp only [eI_lit, eI_neg, eI_add, eI_sub, eI_mul, eF_ap, upd_eF])
    rw [e1]
    refine C_nextNum2 (lo := 0) X ht (R.r (by omega) (by omega)) (by (first | exact B31_s (by omega) (by omega) | exact B31_of _ | (constructor <;> omega))) (by (first | exact B31_s (by omega) (by omega) | exact B31_of _ | (constructor <;> omega))) hE (fun i1 j1 hE2 o2 l2 g2 h6 R1 => ?_) (fun i1 j1 F => by (first | refine z0T ?_ | refine z0N ?_); exact bad _ _ _ _ _ _ _ _ _ _ _ F)
    (first | refine z1T ?_ | refine z1N ?_)
    generalize hv1 : oV e (oX e p) = v1 at *
    have en : S.h 2 = (((S.h 2).toNat : Nat) : Int) := by omega
    have t0 : (2 : Int32) * eI (S.h 2) = eI ((2 * (S.h 2).toNat : Nat) : Int) := by (try simp only [eI_lit, eI_neg, eI_add, eI_sub, eI_mul, eF_ap, upd_eF]); congr 1; omega
    rw [t0]
    refine lg_LineReader_readLoop_47 (G := Nat) (fun q x => q ≤ (S.h 2).toNat ∧ x = eI ((q : Nat) : Int) ∧ ∀ q', q' < q → S.h (441 + 2 * q') ≠ v1) (fun q => (S.h 2).toNat - q) ?_ 0 ⟨by omega, rfl, fun q hq => absurd hq (Nat.not_lt_zero _)⟩
    rintro kr q x ⟨hq, rfl, hall⟩ hst
    unfold b_LineReader_readLoop_47
    refine q_le (by (first | exact B31_s (by omega) (by omega) | exact B31_of _ | (constructor <;> omega))) (by (first | exact B31_s (by omega) (by omega) | exact B31_of _ | (constructor <;> omega))) (fun hle => ?_) (fun hlt2 => ?_)
    · have ed : dupL S v1 = (S.h 2).toNat := by rw [dupL_d]; exact lf_eq (by omega) (fun q' hq' => hall q' (by omega)) (fun h => by omega)
      rw [ed, if_neg (by omega)] at hE2
      refine And.intro (eI_in (by omega) (by omega) (by omega)) ?_; (try simp (disch := omega) only [eI_cl, Int.toNat_natCast])
      rw [h6]
      refine C_nextNumber (lo := 1) (hi := 99) X ht (R1.r (by omega) (by omega)) (by (first | exact B31_s (by omega) (by omega) | exact B31_of _ | (constructor <;> omega))) (by (first | exact B31_s (by omega) (by omega) | exact B31_of _ | (constructor <;> omega))) hE2 (fun i3 j3 hE3 o3 l3 g3 h63 R3 => ?_) (fun i3 j3 F => by (first | refine z0T ?_ | refine z0N ?_); exact bad _ _ _ _ _ _ _ _ _ _ _ F)
      (first | refine z1T ?_ | refine z1N ?_)
      have t1 : eI ((2 * (S.h 2).toNat : Nat) : Int) + 1 = eI ((2 * (S.h 2).toNat + 1 : Nat) : Int) := by (try simp only [eI_lit, eI_neg, eI_add, eI_sub, eI_mul, eF_ap, upd_eF]); congr 1
      rw [t1]
      refine And.intro (eI_in (by omega) (by omega) (by omega)) ?_; (try simp (disch := omega) only [eI_cl, Int.toNat_natCast])
      rw [h63]
      have t4 : eI (S.h 2) + 1 = eI (S.h 2 + 1) := by (try simp only [eI_lit, eI_neg, eI_add, eI_sub, eI_mul, eF_ap, upd_eF])
      rw [t4]
      generalize hv2 : oV e (oX e (oX e p)) = v2 at *
      have f : ∀ q, q ≠ 2 → q < 441 ∨ 457 ≤ q → opH S.h v1 v2 q = S.h q := fun q a b => opH_n a (by omega)
      refine ok _ _ _ _ _ _ _ _ _ _ _ _ _ hE3 (opU_k L (by omega) ⟨l2, g2⟩ ⟨l3, g3⟩) R3 ⟨M.sl, M.on, fun kk hk => M.n1 kk ?_, fun kk hk => M.n2 kk ?_, M.I.cg (h' := opH S.h v1 v2) (n := 2) (c := 5) (by omega) opH_1 (fun q a b => f q b (by omega)) rfl, M.G.cg O (f 0 (by omega) (by omega)) (fun q a b => f q (by omega) (by omega)), M.H.cg O (f 1 (by omega) (by omega)) (fun q a b => f q (by omega) (by omega)), fun kk hk => ?_, M.D.cg O (f 3 (by omega) (by omega)) (fun q a b => f q (by omega) (by omega)), M.F.cg O (f 10 (by omega) (by omega)) (fun q a b => f q (by omega) (by omega))⟩
      · have hk' : (kk : Int) < opH S.h v1 v2 1 := hk
        rw [opH_n (by omega) (by omega)] at hk'; exact hk'
      · have hk' : (kk : Int) < opH S.h v1 v2 3 := hk
        rw [opH_n (by omega) (by omega)] at hk'; exact hk'
      · have hk' : (kk : Int) < 2 * opH S.h v1 v2 2 := hk
        rw [opH_1] at hk'
        show _ = eI (opH S.h v1 v2 (441 + kk))
        by_cases e0 : kk = 2 * (S.h 2).toNat
        · subst e0; rw [upd_n (by omega), upd_s, opH_a]
        by_cases e1 : kk = 2 * (S.h 2).toNat + 1
        · subst e1
          have ee : 441 + (2 * (S.h 2).toNat + 1) = 441 + 2 * (S.h 2).toNat + 1 := by omega
          rw [upd_s, ee, opH_b]
        rw [upd_n (by omega), upd_n (by omega), opH_n (by omega) (by omega)]
        exact M.O kk (by omega)
    · have t5 : (2 : Int32) * eI (q : Int) = eI ((2 * q : Nat) : Int) := by (try simp only [eI_lit, eI_neg, eI_add, eI_sub, eI_mul, eF_ap, upd_eF]); congr 1
      rw [t5]
      refine And.intro (eI_in (by omega) (by omega) (by omega)) ?_; (try simp (disch := omega) only [eI_cl, Int.toNat_natCast])
      rw [h6, M.O (2 * q) (by omega)]
      have hlp := O.lp q (by omega)
      refine q_ne (by (first | exact B31_s (by omega) (by omega) | exact B31_of _ | (constructor <;> omega))) (by (first | exact B31_s (by omega) (by omega) | exact B31_of _ | (constructor <;> omega))) (fun hne => ?_) (fun he => ?_)
      · refine hst (q + 1) _ (by omega) ⟨by omega, by (try simp only [eI_lit, eI_neg, eI_add, eI_sub, eI_mul, eF_ap, upd_eF]); congr 1, fun q' hq' => ?_⟩
        by_cases e1 : q' = q
        · subst e1; exact hne
        · exact hall q' (by omega)
      · have ed : dupL S v1 = q := by rw [dupL_d]; exact lf_eq (by omega) hall (fun _ => he)
        rw [ed, if_pos (by omega)] at hE2
        exact C_failHere X R1 (by omega) (by omega) hE2 rfl (fun i' F => bad _ _ _ _ _ _ _ _ _ _ _ F)
  · rw [if_pos (by omega)] at hE
    exact C_failHere X R (by omega) (by omega) hE rfl (fun i' F => bad _ _ _ _ _ _ _ _ _ _ _ F)
