/-! line: train -/
def trH (h : Nat → Int) (k : Int) : Nat → Int := updI (updI h (475 + (h 10).toNat) k) 10 (h 10 + 1)
theorem trH_1 {h : Nat → Int} {k : Int} : trH h k 10 = h 10 + 1 := by unfold trH; rw [updI_s]
theorem trH_a {h : Nat → Int} {k : Int} : trH h k (475 + (h 10).toNat) = k := by unfold trH; rw [updI_n _ (by omega), updI_s]
theorem trH_n {h : Nat → Int} {k : Int} {q : Nat} (h1 : q ≠ 10) (h2 : q ≠ 475 + (h 10).toNat) : trH h k q = h q := by unfold trH; rw [updI_n _ h1, updI_n _ h2]
theorem trH_ok {h : Nat → Int} {b : Int} (O : LOk h) (hn : h 10 < 8) (hb : 0 ≤ b ∧ b < h 3) : LOk (trH h b) := by
  have hhc := O.hc
  have hfc := O.fc
  have hlc := O.lc
  have hkc := O.kc
  have f : ∀ q, q ≠ 10 → q < 475 → trH h b q = h q := fun q h1 h2 => trH_n h1 (by omega)
  have e0 := f 0 (by omega) (by omega)
  have e1 := f 1 (by omega) (by omega)
  have e2 := f 2 (by omega) (by omega)
  have e3 := f 3 (by omega) (by omega)
  have hAT : ∀ k : Nat, (k : Int) < h 1 → AT (trH h b) k = AT h k := fun k hk => f _ (by omega) (by omega)
  have hHL : ∀ k : Nat, (k : Int) < h 1 → HL (trH h b) k = HL h k := fun k hk => f _ (by omega) (by omega)
  have hAD : ∀ k : Nat, (k : Int) < h 1 → AD (trH h b) k = AD h k := fun k hk => by unfold AD; rw [f _ (by omega) (by omega)]
  refine ⟨by rw [e0]; exact O.u, by rw [e1]; exact O.hc, by rw [e2]; exact O.lc, by rw [e3]; exact O.kc, by rw [f 4 (by omega) (by omega)]; exact O.pull, by rw [f 5 (by omega) (by omega)]; exact O.eng, by rw [f 6 (by omega) (by omega)]; exact O.rub, by rw [f 7 (by omega) (by omega)]; exact O.sand, by rw [f 8 (by omega) (by omega)]; exact O.wear, by rw [f 9 (by omega) (by omega)]; exact O.walk, by rw [trH_1]; omega, fun j hj => ?_, fun k hk => ?_, fun k hk => ?_, fun k hk => ?_, fun j k hjk hk => ?_, fun k hk => ?_, fun k h0 hk => ?_, fun k hk => ?_⟩
  · rw [f _ (by omega) (by omega)]; exact O.gr j hj
  · rw [e1] at hk; rw [hAT k hk, e0]; exact O.at_ k hk
  · rw [e1] at hk; rw [hHL k hk]; exact O.hl k hk
  · rw [e1] at hk; rw [hAD k hk, e3]; exact O.ad k hk
  · rw [e1] at hk; rw [hAT k hk, hAT j (by omega)]; exact O.asc j k hjk hk
  · rw [e2] at hk; rw [e0, f (441 + 2 * k) (by omega) (by omega), f (441 + 2 * k + 1) (by omega) (by omega)]; exact O.lp k hk
  · rw [e3] at hk
    have := O.kd k h0 hk
    unfold LG WT ST at *
    rw [f _ (by omega) (by omega), f _ (by omega) (by omega), f _ (by omega) (by omega)]; exact this
  · rw [trH_1] at hk
    rw [e3]
    by_cases ek : k = (h 10).toNat
    · subst ek; rw [trH_a]; exact hb
    · rw [trH_n (by omega) (by omega)]; exact O.tr k (by omega)
def trU (S : LRS) (k : Int) : LRS := (trH S.h k, S.nw, S.nl, S.sl, S.on)
theorem trU_k {S : LRS} (L : LSk S) {b : Int} (h5 : S.on 5 = true) (hn : S.h 10 < 8) (hb : 0 ≤ b ∧ b < S.h 3) : LSk (trU S b) := by
  refine ⟨trH_ok L.o hn hb, L.sl, fun k hk => L.n1 k ?_, fun k hk => L.n2 k ?_, fun h => ?_⟩
  · have hk' : (k : Int) < trH S.h b 1 := hk
    rw [trH_n (by omega) (by omega)] at hk'; exact hk'
  · have hk' : (k : Int) < trH S.h b 3 := hk
    rw [trH_n (by omega) (by omega)] at hk'; exact hk'
  · have h' : S.on 5 = false := h
    rw [h5] at h'; exact absurd h' (by decide)
noncomputable def trB (e : TXX) : Nat → Nat → LRS → (Nat → LRS → RS) → RS
  | 0, _, _, _ => flt 1 0
  | g + 1, p, S, k => namS e p (if fK_ e p S < 0 then flt 3 (oP e p) else if S.h 10 = 8 then flt 4 (oP e p) else if oK e (oX e p) = 3 then k (oX e (oX e p)) (trU S (fK_ e p S)) else trB e g (oX e p) (trU S (fK_ e p S)) k)
theorem M_train_ {e : TXX} {p g : Nat} {S : LRS} {r : RS} {k : Nat → LRS → RS} (X : TK e) {i t hA : F32} {j nm rv : Nat → Int64} (ht : ∀ q, q < e.2.1 → t q &&& 255 = eI (e.1 q)) (hrv : RSV rv) (R : RLd e p i j) (L : LSk S) (M : MR S i hA nm) (h5 : S.on 5 = true) (hg : (g : Int) + S.h 10 = 9) (hE : r = trB e g p S k) {Q : Int32 → F32 → (Nat → Int64) → F32 → Prop} (ok : ∀ i' j' p' S' h', r = semS e p' (k (oX e p') S') → LSk S' → RLd e p' i' j' → MR S' i' h' nm → KLr i i' → Q 1 i' j' h') (bad : ∀ i' j' h', RFl r i' → KLr i i' → Q 0 i' j' h') : w_LongTrainModel_readTrain i j rv hA nm t Q := by
  unfold w_LongTrainModel_readTrain
  refine lg_LongTrainModel_readTrain_0 (G := Nat) (fun g i' j' h' => ∃ p S, (g : Int) + S.h 10 = 9 ∧ S.on 5 = true ∧ r = trB e g p S k ∧ LSk S ∧ RLd e p i' j' ∧ MR S i' h' nm ∧ KLr i i') (fun g => g) ?_ g ⟨p, S, hg, h5, hE, L, R, M, KN.rf.l⟩
  clear hE hg h5 M L R
  rintro kr g i1 j1 h1 ⟨p, S, hg, h5, hE, L, R, M, KK⟩ hst
  have O := L.o
  have hfc := O.fc
  have hkc := O.kc
  have b2 := fK_bd (e := e) (p := p) L
  obtain ⟨g', rfl⟩ : ∃ g', g = g' + 1 := ⟨g - 1, by omega⟩
  rw [trB] at hE
  unfold namS at hE
  have hh3 : h1 3 = eI (S.h 3) := by rw [M.h, eF_ap]
  have hh10 : h1 10 = eI (S.h 10) := by rw [M.h, eF_ap]
  unfold b_LongTrainModel_readTrain_0
  rw [hh3, hh10]
  refine M_isName R hrv (fun hn => ?_) (fun hn => ?_)
  · (first | refine z1T ?_ | refine z1N ?_)
    rw [if_pos hn] at hE
    have hn1 := hn.1
    refine M_fK L M R hn1 rfl ?_
    generalize hf : fK_ e p S = b at *
    refine q_ge0 (by (first | exact B31_s (by omega) (by omega) | exact B31_of _ | (constructor <;> omega))) (fun h => ?_) (fun h => ?_)
    · rw [if_neg (by omega)] at hE
      refine q_ne (b := 8) (by (first | exact B31_s (by omega) (by omega) | exact B31_of _ | (constructor <;> omega))) (by (first | exact B31_s (by omega) (by omega) | exact B31_of _ | (constructor <;> omega))) (fun h8 => ?_) (fun h8 => ?_)
      · rw [if_neg h8] at hE
        have t0 : (475 : Int32) + eI (S.h 10) = eI ((475 + (S.h 10).toNat : Nat) : Int) := by (try simp only [eI_lit, eI_neg, eI_add, eI_sub, eI_mul, eF_ap, upd_eF]); congr 1; omega
        rw [t0]
        refine And.intro (eI_in (by omega) (by omega) (by omega)) ?_; (try simp (disch := omega) only [eI_cl, Int.toNat_natCast])
        have eH : upd (upd h1 (475 + (S.h 10).toNat) (eI b)) 10 (upd h1 (475 + (S.h 10).toNat) (eI b) 10 + 1) = eF (trH S.h b) := by
          rw [M.h, upd_eF, eF_ap, updI_n _ (by omega)]
          have e1 : eI (S.h 10) + 1 = eI (S.h 10 + 1) := by (try simp only [eI_lit, eI_neg, eI_add, eI_sub, eI_mul, eF_ap, upd_eF])
          rw [e1, upd_eF]; rfl
        rw [eH]
        refine M_nxt X ht (R.r (by omega) (by omega)) (fun i2 j2 R2 K2 _ => ?_)
        have L2 := trU_k L h5 (by omega) ⟨h, b2.2⟩
        have M2 : MR (trU S b) i2 (eF (trH S.h b)) nm := by
          refine ⟨rfl, by rw [K2.at_ (by omega)]; exact M.sl, by rw [K2.at_ (q := 21) (by omega)]; exact M.on, fun kk hk => M.n1 kk ?_, fun kk hk => M.n2 kk ?_⟩
          · have hk' : (kk : Int) < trH S.h b 1 := hk
            rw [trH_n (by omega) (by omega)] at hk'; exact hk'
          · have hk' : (kk : Int) < trH S.h b 3 := hk
            rw [trH_n (by omega) (by omega)] at hk'; exact hk'
        refine M_isSemi R2 (fun h3 => ?_) (fun h3 => ?_)
        · (first | refine z1T ?_ | refine z1N ?_)
          rw [if_pos h3] at hE
          exact ok _ _ _ _ _ (by unfold semS; rw [if_pos h3]; exact hE) L2 R2 M2 (KK.tr K2.l)
        · (first | refine z0T ?_ | refine z0N ?_)
          rw [if_neg h3] at hE
          refine hst g' _ _ _ (by omega) ⟨oX e p, trU S b, ?_, h5, hE, L2, R2, M2, KK.tr K2.l⟩
          show (g' : Int) + trH S.h b 10 = 9
          rw [trH_1]; omega
      · rw [if_pos h8] at hE
        exact M_bad X R (by omega) (by omega) hE rfl (fun i' F K => bad _ _ _ F (KK.tr K.l))
    · rw [if_pos h] at hE
      exact M_bad X R (by omega) (by omega) hE rfl (fun i' F K => bad _ _ _ F (KK.tr K.l))
  · (first | refine z0T ?_ | refine z0N ?_)
    rw [if_neg hn] at hE
    exact M_bad X R (by omega) (by omega) hE rfl (fun i' F K => bad _ _ _ F (KK.tr K.l))
theorem trU_C {S : LRS} {it il gl hl ol d fl : F32} {hN kN : Nat → Int64} (O : LOk S.h) (M : CR S it il gl hl ol d fl hN kN) {b : Int} (hn : S.h 10 < 8) : CR (trU S b) it (upd il 9 (eI (S.h 10 + 1))) gl hl ol d (upd fl (S.h 10).toNat (eI b)) hN kN := by
  have hfc := O.fc
  have hkc := O.kc
  have hlc := O.lc
  have f : ∀ q, q ≠ 10 → q < 475 → trH S.h b q = S.h q := fun q h1 h2 => trH_n h1 (by omega)
  refine ⟨M.sl, M.on, fun k hk => M.n1 k ?_, fun k hk => M.n2 k ?_, M.I.cg (h' := trH S.h b) (n := 10) (c := 9) (by omega) trH_1 (fun q a b => f q b (by omega)) rfl, M.G.cg O (f 0 (by omega) (by omega)) (fun q a b => f q (by omega) (by omega)), M.H.cg O (f 1 (by omega) (by omega)) (fun q a b => f q (by omega) (by omega)), M.O.cg O (f 2 (by omega) (by omega)) (fun q a b => f q (by omega) (by omega)), M.D.cg O (f 3 (by omega) (by omega)) (fun q a b => f q (by omega) (by omega)), fun kk hk => ?_⟩
  · have hk' : (k : Int) < trH S.h b 1 := hk
    rw [trH_n (by omega) (by omega)] at hk'; exact hk'
  · have hk' : (k : Int) < trH S.h b 3 := hk
    rw [trH_n (by omega) (by omega)] at hk'; exact hk'
  · have hk' : (kk : Int) < trH S.h b 10 := hk
    rw [trH_1] at hk'
    show upd fl (S.h 10).toNat (eI b) kk = eI (trH S.h b (475 + kk))
    by_cases ek : kk = (S.h 10).toNat
    · subst ek; rw [upd_s, trH_a]
    · rw [upd_n ek, trH_n (by omega) (by omega)]; exact M.F kk (by omega)
theorem C_train_ {e : TXX} {p : Nat} {S : LRS} {r : RS} {k : Nat → LRS → RS} (X : TK e) {it i t il gl hl ol d fl : F32} {j hN kN : Nat → Int64} (ht : ∀ q, q < e.2.1 → t q = eI (e.1 q)) (R : CRd e p i) (L : LSk S) (M : CR S it il gl hl ol d fl hN kN) (h5 : S.on 5 = true) (h10 : S.h 10 = 0) (hE : r = trB e 9 p S k) {Q : Int32 → F32 → (Nat → Int64) → F32 → F32 → Prop} (ok : ∀ i' j' il' fl' p' S', r = k p' S' → LSk S' → CRd e p' i' → CR S' it il' gl hl ol d fl' hN kN → Q 1 i' j' il' fl') (bad : ∀ i' j' il' fl', CFl r i' → Q 0 i' j' il' fl') : w_LineReader_readTrain i j t kN il fl Q := by
  unfold w_LineReader_readTrain
  refine C_adv X ht R (fun i1 j1 R1 => ?_)
  refine lg_LineReader_readTrain_9 (G := Nat) (fun g x i' j' il' fl' => ∃ p S, (g : Int) + S.h 10 = 9 ∧ x = eI (S.h 10) ∧ S.on 5 = true ∧ r = (if 0 < S.h 10 ∧ oK e p = 3 then k (oX e p) S else trB e g p S k) ∧ LSk S ∧ CLd e p i' j' ∧ CR S it il' gl hl ol d fl' hN kN) (fun g => g) ?_ 9 ⟨p, S, by rw [h10]; omega, by rw [h10]; rfl, h5, by rw [if_neg (by omega)]; exact hE, L, R1, M⟩
  clear hE h10 h5 M L R R1
  rintro kr g x i1 j1 il fl ⟨p, S, hg, rfl, h5, hE, L, R, M⟩ hst
  have O := L.o
  have hfc := O.fc
  have hkc := O.kc
  have b2 := fK_bd (e := e) (p := p) L
  have hs := cso_1 (oK_le e p)
  obtain ⟨g', rfl⟩ : ∃ g', g = g' + 1 := ⟨g - 1, by omega⟩
  have main : ¬ (0 < S.h 10 ∧ oK e p = 3) → j_LineReader_readTrain_32 i1 j1 t kN il fl (eI (S.h 10)) Q kr := fun hno => by
    rw [if_neg hno, trB] at hE
    unfold j_LineReader_readTrain_32
    refine C_isName X ht R hE (fun hE2 hn => ?_) (fun i' F => by (first | refine z0T ?_ | refine z0N ?_); exact bad _ _ _ _ F)
    (first | refine z1T ?_ | refine z1N ?_)
    have hn1 := hn.1
    refine C_fK L M R hn1 ?_
    generalize hf : fK_ e p S = b at *
    refine q_ne (a := b) (b := -1) (by (first | exact B31_s (by omega) (by omega) | exact B31_of _ | (constructor <;> omega))) (by (first | exact B31_s (by omega) (by omega) | exact B31_of _ | (constructor <;> omega))) (fun h => ?_) (fun h => ?_)
    · rw [if_neg (by omega)] at hE2
      refine q_ne (b := 8) (by (first | exact B31_s (by omega) (by omega) | exact B31_of _ | (constructor <;> omega))) (by (first | exact B31_s (by omega) (by omega) | exact B31_of _ | (constructor <;> omega))) (fun h8 => ?_) (fun h8 => ?_)
      · rw [if_neg h8] at hE2
        refine And.intro (eI_in (by omega) (by omega) (by omega)) ?_; (try simp (disch := omega) only [eI_cl, Int.toNat_natCast])
        refine C_adv X ht (R.r (by omega) (by omega)) (fun i2 j2 R2 => ?_)
        have t1 : eI (S.h 10) + 1 = eI (S.h 10 + 1) := by (try simp only [eI_lit, eI_neg, eI_add, eI_sub, eI_mul, eF_ap, upd_eF])
        rw [t1]
        refine hst g' _ _ _ _ _ (by omega) ⟨oX e p, trU S b, ?_, ?_, h5, ?_, trU_k L h5 (by omega) ⟨by omega, b2.2⟩, R2, trU_C O M (by omega)⟩
        · show (g' : Int) + trH S.h b 10 = 9
          rw [trH_1]; omega
        · show eI (S.h 10 + 1) = eI (trH S.h b 10)
          rw [trH_1]
        · rw [hE2]
          have e1 : (trU S b).h 10 = S.h 10 + 1 := trH_1 (k := b)
          by_cases h3 : oK e (oX e p) = 3
          · rw [if_pos h3, if_pos ⟨by rw [e1]; omega, h3⟩]
          · rw [if_neg h3, if_neg (fun h => h3 h.2)]
      · rw [if_pos h8] at hE2
        exact C_failHere X R (by omega) (by omega) hE2 rfl (fun i' F => bad _ _ _ _ F)
    · rw [if_pos (by omega)] at hE2
      exact C_failHere X R (by omega) (by omega) hE2 rfl (fun i' F => bad _ _ _ _ F)
  unfold b_LineReader_readTrain_9
  refine q_lt (a := 8) (by (first | exact B31_s (by omega) (by omega) | exact B31_of _ | (constructor <;> omega))) (by (first | exact B31_s (by omega) (by omega) | exact B31_of _ | (constructor <;> omega))) (fun h => by omega) (fun _ => ?_)
  refine q_le0 (by (first | exact B31_s (by omega) (by omega) | exact B31_of _ | (constructor <;> omega))) (fun h => main (by omega)) (fun h => ?_)
  rw [R.s]
  refine q_ne (b := 3) (by (first | exact B31_s (by omega) (by omega) | exact B31_of _ | (constructor <;> omega))) (by (first | exact B31_s (by omega) (by omega) | exact B31_of _ | (constructor <;> omega))) (fun h3 => main (fun hh => h3 (hs.2.2.1.mpr hh.2))) (fun h3 => ?_)
  have h3' := hs.2.2.1.mp h3
  rw [if_pos ⟨h, h3'⟩] at hE
  exact ok _ _ _ _ _ _ hE L (R.r (by omega) (by omega)) M
