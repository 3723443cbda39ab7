/-! line: adds -/
def adH (h : Nat → Int) (a : Nat) (b : Int) : Nat → Int := updI h (411 + 3 * a + 2) (b + 1)
theorem adH_n {h : Nat → Int} {a : Nat} {b : Int} {q : Nat} (h1 : q ≠ 411 + 3 * a + 2) : adH h a b q = h q := by unfold adH; rw [updI_n _ h1]
theorem adH_s {h : Nat → Int} {a : Nat} {b : Int} : adH h a b (411 + 3 * a + 2) = b + 1 := by unfold adH; rw [updI_s]
theorem adH_A {h : Nat → Int} {a : Nat} {b : Int} (k : Nat) : AT (adH h a b) k = AT h k ∧ HL (adH h a b) k = HL h k ∧ (k ≠ a → AD (adH h a b) k = AD h k) ∧ (k = a → AD (adH h a b) k = b) := by
  unfold AT HL AD
  refine ⟨adH_n (by omega), adH_n (by omega), fun hk => by rw [adH_n (by omega)], fun hk => ?_⟩
  have t2 : (411 + 3 * (k : Int) + 2).toNat = 411 + 3 * a + 2 := by omega
  rw [t2, adH_s]; omega
theorem adH_ok {h : Nat → Int} {a : Nat} {b : Int} (O : LOk h) (ha : (a : Int) < h 1) (hb : 0 ≤ b ∧ b < h 3) : LOk (adH h a b) := by
  have hhc := O.hc
  have hfc := O.fc
  have hlc := O.lc
  have f : ∀ q, q < 411 ∨ 441 ≤ q → adH h a b q = h q := fun q h2 => adH_n (by omega)
  have e0 := f 0 (by omega)
  have e1 := f 1 (by omega)
  have e2 := f 2 (by omega)
  have e3 := f 3 (by omega)
  have e10 := f 10 (by omega)
  refine ⟨by rw [e0]; exact O.u, by rw [e1]; exact O.hc, by rw [e2]; exact O.lc, by rw [e3]; exact O.kc, by rw [f 4 (by omega)]; exact O.pull, by rw [f 5 (by omega)]; exact O.eng, by rw [f 6 (by omega)]; exact O.rub, by rw [f 7 (by omega)]; exact O.sand, by rw [f 8 (by omega)]; exact O.wear, by rw [f 9 (by omega)]; exact O.walk, by rw [e10]; exact O.fc, fun j hj => ?_, fun k hk => ?_, fun k hk => ?_, fun k hk => ?_, fun j k hjk hk => ?_, fun k hk => ?_, fun k h0 hk => ?_, fun k hk => ?_⟩
  · rw [f _ (by omega)]; exact O.gr j hj
  · rw [e1] at hk; rw [(adH_A k).1, e0]; exact O.at_ k hk
  · rw [e1] at hk; rw [(adH_A k).2.1]; exact O.hl k hk
  · rw [e1] at hk
    by_cases ek : k = a
    · rw [(adH_A k).2.2.2 ek, e3]; omega
    · rw [(adH_A k).2.2.1 ek, e3]; exact O.ad k hk
  · rw [e1] at hk; rw [(adH_A k).1, (adH_A j).1]; exact O.asc j k hjk hk
  · rw [e2] at hk
    rw [e0, f (441 + 2 * k) (by omega), f (441 + 2 * k + 1) (by omega)]; exact O.lp k hk
  · rw [e3] at hk
    have := O.kd k h0 hk
    unfold LG WT ST at *
    rw [f _ (by omega), f _ (by omega), f _ (by omega)]; exact this
  · rw [e10] at hk
    rw [f _ (by omega), e3]; exact O.tr k hk
noncomputable def adU (S : LRS) (a : Nat) (b : Int) : LRS := (adH S.h a b, S.nw, S.nl, S.sl, S.on)
theorem adU_k {S : LRS} (L : LSk S) {a : Nat} {b : Int} (ha : (a : Int) < S.h 1) (hb : 0 ≤ b ∧ b < S.h 3) : LSk (adU S a b) := by
  refine ⟨adH_ok L.o ha hb, L.sl, fun k hk => L.n1 k ?_, fun k hk => L.n2 k ?_, fun h5 => (adH_n (by omega)).trans (L.f5 h5)⟩
  · have hk' : (k : Int) < adH S.h a b 1 := hk
    rw [adH_n (by omega)] at hk'; exact hk'
  · have hk' : (k : Int) < adH S.h a b 3 := hk
    rw [adH_n (by omega)] at hk'; exact hk'
noncomputable def adS (e : TXX) (p : Nat) (S : LRS) (k : Nat → LRS → RS) : RS :=
  namS e (oX e p) (if fH e (oX e p) S < 0 ∨ 0 < S.h (411 + 3 * (fH e (oX e p) S).toNat + 2) then flt 3 (oP e (oX e p)) else namS e (oX e (oX e p)) (if fK_ e (oX e (oX e p)) S < 0 then flt 3 (oP e (oX e (oX e p))) else semS e (oX e (oX e (oX e p))) (k (oX e (oX e (oX e (oX e p)))) (adU S (fH e (oX e p) S).toNat (fK_ e (oX e (oX e p)) S)))))
def wAdds (i_t : F32) (j_t : Nat → Int64) (t : F32) (rv : Nat → Int64) (r_t_h : F32) (nm : Nat → Int64) (Q : QRow) : Prop :=
  w_LongTrainModel_next i_t j_t t (fun (i1 : F32) (j1 : Nat → Int64) => (w_LongTrainModel_isName i1 j1 rv (fun (z_106 : Int32) => (((¬ z_106 = 0) → (w_LongTrainModel_find j1 nm 16 (r_t_h 1) (fun (z_109 : Int32) => (((z_109 < 0) → (w_LongTrainModel_bad i1 3 (fun (z_111 : Int32) (i2 : F32) => (Q z_111 i2 j1 r_t_h nm)))) ∧ ((¬ (z_109 < 0)) → (vp_in (((411 : Int32) + ((3 : Int32) * z_109)) + (2 : Int32)) 483 ∧ ((((r_t_h ((((411 : Int32) + ((3 : Int32) * z_109)) + (2 : Int32))).toNatClampNeg) ≤ 0) → (w_LongTrainModel_next i1 j1 t (fun (i3 : F32) (j3 : Nat → Int64) => (w_LongTrainModel_isName i3 j3 rv (fun (z_116 : Int32) => (((¬ z_116 = 0) → (w_LongTrainModel_find j3 nm 26 (r_t_h 3) (fun (z_119 : Int32) => (((0 ≤ z_119) → (vp_in (((411 : Int32) + ((3 : Int32) * z_109)) + (2 : Int32)) 483 ∧ (w_LongTrainModel_next i3 j3 t (fun (i4 : F32) (j4 : Nat → Int64) => (Q 1 i4 j4 (upd r_t_h ((((411 : Int32) + ((3 : Int32) * z_109)) + (2 : Int32))).toNatClampNeg (z_119 + (1 : Int32))) nm))))) ∧ ((¬ (0 ≤ z_119)) → (w_LongTrainModel_bad i3 3 (fun (z_124 : Int32) (i5 : F32) => (Q z_124 i5 j3 r_t_h nm)))))))) ∧ ((z_116 = 0) → (w_LongTrainModel_bad i3 1 (fun (z_128 : Int32) (i5 : F32) => (Q z_128 i5 j3 r_t_h nm)))))))))) ∧ ((¬ ((r_t_h ((((411 : Int32) + ((3 : Int32) * z_109)) + (2 : Int32))).toNatClampNeg) ≤ 0)) → (w_LongTrainModel_bad i1 3 (fun (z_132 : Int32) (i5 : F32) => (Q z_132 i5 j1 r_t_h nm))))))))))) ∧ ((z_106 = 0) → (w_LongTrainModel_bad i1 1 (fun (z_137 : Int32) (i5 : F32) => (Q z_137 i5 j1 r_t_h nm))))))))
theorem M_adds {e : TXX} {p : Nat} {S : LRS} {r : RS} {k : Nat → LRS → RS} (X : TK e) {i t hA : F32} {j nm rv : Nat → Int64} (ht : ∀ q, q < e.2.1 → t q &&& 255 = eI (e.1 q)) (hrv : RSV rv) (R : RLd e p i j) (h1 : oK e p = 1) (L : LSk S) (M : MR S i hA nm) (hE : r = adS e p S k) {Q : QRow} (ok : ∀ i' j' p' S' h' nm', r = semS e p' (k (oX e p') S') → LSk S' → RLd e p' i' j' → MR S' i' h' nm' → KLr i i' → Q 1 i' j' h' nm') (bad : ∀ i' j' h' nm', RFl r i' → KLr i i' → Q 0 i' j' h' nm') : wAdds i j t rv hA nm Q := by
  have O := L.o
  have hc := O.hc
  have hkc := O.kc
  have b1 := fH_bd (e := e) (p := oX e p) L
  have b2 := fK_bd (e := e) (p := oX e (oX e p)) L
  unfold adS namS at hE
  unfold wAdds
  have hh1 : hA 1 = eI (S.h 1) := by rw [M.h, eF_ap]
  have hh3 : hA 3 = eI (S.h 3) := by rw [M.h, eF_ap]
  rw [hh1, hh3]
  refine M_nxt X ht (R.r (by omega) (by omega)) (fun i1 j1 R1 K1 _ => ?_)
  refine M_isName R1 hrv (fun hn => ?_) (fun hn => ?_)
  · (first | refine z1T ?_ | refine z1N ?_)
    rw [if_pos hn] at hE
    refine M_fH L M R1 hn.1 rfl ?_
    generalize hf : fH e (oX e p) S = a at *
    refine q_lt0 (by (first | exact B31_s (by omega) (by omega) | exact B31_of _ | (constructor <;> omega))) (fun h => ?_) (fun h => ?_)
    · rw [if_pos (Or.inl h)] at hE
      exact M_bad X R1 (by omega) (by omega) hE rfl (fun i' F K => bad _ _ _ _ F (K1.tr K).l)
    · have t0 : (411 : Int32) + 3 * eI a + 2 = eI ((411 + 3 * a.toNat + 2 : Nat) : Int) := by (try simp only [eI_lit, eI_neg, eI_add, eI_sub, eI_mul, eF_ap, upd_eF]); congr 1; omega
      rw [t0]
      have had := O.ad a.toNat (by omega)
      have e3 : AD S.h ((a.toNat : Nat) : Int) = S.h (411 + 3 * a.toNat + 2) - 1 := by unfold AD; congr 2
      rw [e3] at had
      refine And.intro (eI_in (by omega) (by omega) (by omega)) ?_; (try simp (disch := omega) only [eI_cl, Int.toNat_natCast])
      have hv : hA (411 + 3 * a.toNat + 2) = eI (S.h (411 + 3 * a.toNat + 2)) := by rw [M.h, eF_ap]
      rw [hv]
      refine q_le0 (by (first | exact B31_s (by omega) (by omega) | exact B31_of _ | (constructor <;> omega))) (fun h0 => ?_) (fun h0 => ?_)
      · rw [if_neg (by omega)] at hE
        have hn1 := hn.1
        refine M_nxt X ht (R1.r (by omega) (by omega)) (fun i3 j3 R3 K3 _ => ?_)
        refine M_isName R3 hrv (fun hn3 => ?_) (fun hn3 => ?_)
        · (first | refine z1T ?_ | refine z1N ?_)
          rw [if_pos hn3] at hE
          have hn31 := hn3.1
          refine M_fK L M R3 hn3.1 rfl ?_
          generalize hg : fK_ e (oX e (oX e p)) S = b at *
          refine q_ge0 (by (first | exact B31_s (by omega) (by omega) | exact B31_of _ | (constructor <;> omega))) (fun hb => ?_) (fun hb => ?_)
          · rw [if_neg (by omega)] at hE
            refine And.intro (eI_in (by omega) (by omega) (by omega)) ?_
            refine M_nxt X ht (R3.r (by omega) (by omega)) (fun i4 j4 R4 K4 _ => ?_)
            have e4 : eI b + 1 = eI (b + 1) := by (try simp only [eI_lit, eI_neg, eI_add, eI_sub, eI_mul, eF_ap, upd_eF])
            rw [e4, M.h, upd_eF]
            have KK : KN i i4 := (K1.tr K3).tr K4
            refine ok _ _ _ _ _ _ hE (adU_k L (by omega) ⟨hb, b2.2⟩) R4 ⟨rfl, by rw [KK.at_ (by omega)]; exact M.sl, by rw [KK.at_ (q := 21) (by omega)]; exact M.on, fun kk hk => M.n1 kk ?_, fun kk hk => M.n2 kk ?_⟩ KK.l
            · have hk' : (kk : Int) < adH S.h a.toNat b 1 := hk
              rw [adH_n (by omega)] at hk'; exact hk'
            · have hk' : (kk : Int) < adH S.h a.toNat b 3 := hk
              rw [adH_n (by omega)] at hk'; exact hk'
          · rw [if_pos hb] at hE
            exact M_bad X R3 (by omega) (by omega) hE rfl (fun i' F K => bad _ _ _ _ F ((K1.tr K3).tr K).l)
        · (first | refine z0T ?_ | refine z0N ?_)
          rw [if_neg hn3] at hE
          exact M_bad X R3 (by omega) (by omega) hE rfl (fun i' F K => bad _ _ _ _ F ((K1.tr K3).tr K).l)
      · rw [if_pos (by omega)] at hE
        exact M_bad X R1 (by omega) (by omega) hE rfl (fun i' F K => bad _ _ _ _ F (K1.tr K).l)
  · (first | refine z0T ?_ | refine z0N ?_)
    rw [if_neg hn] at hE
    exact M_bad X R1 (by omega) (by omega) hE rfl (fun i' F K => bad _ _ _ _ F (K1.tr K).l)
theorem C_nextName {e : TXX} {p : Nat} {r k : RS} (X : TK e) {i t : F32} {j : Nat → Int64} (ht : ∀ q, q < e.2.1 → t q = eI (e.1 q)) (C : CRd e p i) (hE : r = namS e p k) {Q : Int32 → F32 → (Nat → Int64) → Prop} (ok : ∀ i' j', r = k → nam e p → CLd e p i' j' → Q 1 i' j') (bad : ∀ i' j', CFl r i' → Q 0 i' j') : w_Reader_nextName i j t Q := by
  unfold w_Reader_nextName
  refine C_adv X ht C (fun i' j' L => ?_)
  exact C_isName X ht L hE (fun h1 h2 => ok i' j' h1 h2 L) (fun i2 F => bad i2 j' F)
theorem C_adds {e : TXX} {p : Nat} {S : LRS} {r : RS} {k : Nat → LRS → RS} (X : TK e) {it i t il gl hl ol d fl : F32} {j hN kN : Nat → Int64} (ht : ∀ q, q < e.2.1 → t q = eI (e.1 q)) (R : CLd e p i j) (h1 : oK e p = 1) (L : LSk S) (M : CR S it il gl hl ol d fl hN kN) (hE : r = adS e p S k) {Q : QCR} (ok : ∀ it' i' j' il' gl' hN' kN' hl' ol' d' fl' p' S', r = semS e p' (k (oX e p') S') → LSk S' → CRd e p' i' → CR S' it' il' gl' hl' ol' d' fl' hN' kN' → Q 1 it' i' j' il' gl' hN' kN' hl' ol' d' fl') (bad : ∀ it' i' j' il' gl' hN' kN' hl' ol' d' fl', CFl r i' → Q 0 it' i' j' il' gl' hN' kN' hl' ol' d' fl') : w_LineReader_readAdds i j t hN il hl kN (fun z i' j' hl' => Q z it i' j' il gl hN kN hl' ol d fl) := by
  have O := L.o
  have hc := O.hc
  have hkc := O.kc
  have b1 := fH_bd (e := e) (p := oX e p) L
  have b2 := fK_bd (e := e) (p := oX e (oX e p)) L
  unfold adS at hE
  unfold w_LineReader_readAdds
  refine C_nextName X ht (R.r (by omega) (by omega)) hE (fun i1 j1 hE1 hn R1 => ?_) (fun i1 j1 F => by (first | refine z0T ?_ | refine z0N ?_); exact bad _ _ _ _ _ _ _ _ _ _ _ F)
  (first | refine z1T ?_ | refine z1N ?_)
  have hn1 := hn.1
  refine C_fH L M R1 hn.1 ?_
  generalize hf : fH e (oX e p) S = a at *
  refine q_eq (a := a) (b := -1) (by (first | exact B31_s (by omega) (by omega) | exact B31_of _ | (constructor <;> omega))) (by (first | exact B31_s (by omega) (by omega) | exact B31_of _ | (constructor <;> omega))) (fun h => ?_) (fun h => ?_)
  · rw [if_pos (by omega)] at hE1
    exact C_failHere X R1 (by omega) (by omega) hE1 rfl (fun i' F => bad _ _ _ _ _ _ _ _ _ _ _ F)
  · unfold w_Line_haltAdds
    have t0 : (3 : Int32) * eI a + 2 = eI ((3 * a.toNat + 2 : Nat) : Int) := by (try simp only [eI_lit, eI_neg, eI_add, eI_sub, eI_mul, eF_ap, upd_eF]); congr 1; omega
    rw [t0]
    have had := O.ad a.toNat (by omega)
    have e3 : AD S.h ((a.toNat : Nat) : Int) = S.h (411 + 3 * a.toNat + 2) - 1 := by unfold AD; congr 2
    have hH := (M.H a.toNat (by omega)).2.2
    rw [e3] at had hH
    refine And.intro (eI_in (by omega) (by omega) (by omega)) ?_; (try simp (disch := omega) only [eI_cl, Int.toNat_natCast])
    rw [hH]
    refine q_eq (a := S.h (411 + 3 * a.toNat + 2) - 1) (b := -1) (by (first | exact B31_s (by omega) (by omega) | exact B31_of _ | (constructor <;> omega))) (by (first | exact B31_s (by omega) (by omega) | exact B31_of _ | (constructor <;> omega))) (fun h0 => ?_) (fun h0 => ?_)
    · rw [if_neg (by omega)] at hE1
      refine C_nextName X ht (R1.r (by omega) (by omega)) hE1 (fun i3 j3 hE3 hn3 R3 => ?_) (fun i3 j3 F => by (first | refine z0T ?_ | refine z0N ?_); exact bad _ _ _ _ _ _ _ _ _ _ _ F)
      (first | refine z1T ?_ | refine z1N ?_)
      have hn31 := hn3.1
      refine C_fK L M R3 hn3.1 ?_
      generalize hg : fK_ e (oX e (oX e p)) S = b at *
      refine q_ne (a := b) (b := -1) (by (first | exact B31_s (by omega) (by omega) | exact B31_of _ | (constructor <;> omega))) (by (first | exact B31_s (by omega) (by omega) | exact B31_of _ | (constructor <;> omega))) (fun hb => ?_) (fun hb => ?_)
      · rw [if_neg (by omega)] at hE3
        refine And.intro (eI_in (by omega) (by omega) (by omega)) ?_
        have f : ∀ q, q < 411 ∨ 441 ≤ q → adH S.h a.toNat b q = S.h q := fun q h2 => adH_n (by omega)
        refine ok _ _ _ _ _ _ _ _ _ _ _ _ _ hE3 (adU_k L (by omega) ⟨by omega, b2.2⟩) (R3.r (by omega) (by omega)) ⟨M.sl, M.on, fun kk hk => M.n1 kk ?_, fun kk hk => M.n2 kk ?_, ⟨?_, ?_, ?_, ?_, ?_, ?_, ?_, ?_, ?_, ?_, ?_⟩, M.G.cg O (f 0 (by omega)) (fun q a b => f q (by omega)), fun kk hk => ?_, M.O.cg O (f 2 (by omega)) (fun q a b => f q (by omega)), M.D.cg O (f 3 (by omega)) (fun q a b => f q (by omega)), M.F.cg O (f 10 (by omega)) (fun q a b => f q (by omega))⟩
        · rw [← f 1 (by omega)]; exact hk
        · rw [← f 3 (by omega)]; exact hk
        · rw [M.I.u, ← f 0 (by omega)]; rfl
        · rw [M.I.hc, ← f 1 (by omega)]; rfl
        · rw [M.I.lc, ← f 2 (by omega)]; rfl
        · rw [M.I.kc, ← f 3 (by omega)]; rfl
        · rw [M.I.fc, ← f 10 (by omega)]; rfl
        · rw [M.I.pull, ← f 4 (by omega)]; rfl
        · rw [M.I.eng, ← f 5 (by omega)]; rfl
        · rw [M.I.rub, ← f 6 (by omega)]; rfl
        · rw [M.I.sand, ← f 7 (by omega)]; rfl
        · rw [M.I.wear, ← f 8 (by omega)]; rfl
        · rw [M.I.walk, ← f 9 (by omega)]; rfl
        · have hk' : (kk : Int) < adH S.h a.toNat b 1 := hk
          rw [f 1 (by omega)] at hk'
          have hm := M.H kk hk'
          have ha := adH_A (h := S.h) (a := a.toNat) (b := b) kk
          show _ = eI (AT (adH S.h a.toNat b) kk) ∧ _ = eI (HL (adH S.h a.toNat b) kk) ∧ _ = eI (AD (adH S.h a.toNat b) kk)
          rw [ha.1, ha.2.1]
          have hm1 := hm.1
          have hm2 := hm.2.1
          have hm3 := hm.2.2
          refine ⟨by rw [upd_n (by omega)]; exact hm1, by rw [upd_n (by omega)]; exact hm2, ?_⟩
          by_cases ek : kk = a.toNat
          · rw [ha.2.2.2 ek, ek, upd_s]
          · rw [ha.2.2.1 ek, upd_n (by omega)]; exact hm3
      · rw [if_pos (by omega)] at hE3
        exact C_failHere X R3 (by omega) (by omega) hE3 rfl (fun i' F => bad _ _ _ _ _ _ _ _ _ _ _ F)
    · rw [if_pos (by omega)] at hE1
      exact C_failHere X R1 (by omega) (by omega) hE1 rfl (fun i' F => bad _ _ _ _ _ _ _ _ _ _ _ F)
