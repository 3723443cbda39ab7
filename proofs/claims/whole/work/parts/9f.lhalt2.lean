/-! line: halt of the class -/
theorem LnI.cg {h h' : Nat → Int} {il il' : F32} (I : LnI h il) {n c : Nat} {x : Int} (hn : n = 1 ∧ c = 3 ∨ n = 2 ∧ c = 5 ∨ n = 3 ∧ c = 7 ∨ n = 10 ∧ c = 9 ∨ n = 4 ∧ c = 10 ∨ n = 5 ∧ c = 11 ∨ n = 6 ∧ c = 12 ∨ n = 7 ∧ c = 13 ∨ n = 8 ∧ c = 14 ∨ n = 9 ∧ c = 15) (hx : h' n = x) (hk : ∀ q, q < 11 → q ≠ n → h' q = h q) (hi : il' = upd il c (eI x)) : LnI h' il' := by
  subst hi
  have g : ∀ q c' : Nat, q < 11 → (q = 0 ∧ c' = 1 ∨ q = 1 ∧ c' = 3 ∨ q = 2 ∧ c' = 5 ∨ q = 3 ∧ c' = 7 ∨ q = 10 ∧ c' = 9 ∨ q = 4 ∧ c' = 10 ∨ q = 5 ∧ c' = 11 ∨ q = 6 ∧ c' = 12 ∨ q = 7 ∧ c' = 13 ∨ q = 8 ∧ c' = 14 ∨ q = 9 ∧ c' = 15) → il c' = eI (h q) → upd il c (eI x) c' = eI (h' q) := fun q c' hq hc hv => by
    by_cases e : q = n
    · have ec : c' = c := by omega
      subst ec; rw [upd_s, e, hx]
    · rw [upd_n (by omega), hv, hk q hq e]
  exact ⟨g 0 1 (by omega) (by omega) I.u, g 1 3 (by omega) (by omega) I.hc, g 2 5 (by omega) (by omega) I.lc, g 3 7 (by omega) (by omega) I.kc, g 10 9 (by omega) (by omega) I.fc, g 4 10 (by omega) (by omega) I.pull, g 5 11 (by omega) (by omega) I.eng, g 6 12 (by omega) (by omega) I.rub, g 7 13 (by omega) (by omega) I.sand, g 8 14 (by omega) (by omega) I.wear, g 9 15 (by omega) (by omega) I.walk⟩
theorem C_halt_ {e : TXX} {p : Nat} {S : LRS} {r : RS} {k : Nat → LRS → RS} (X : TK e) {it i t il gl hl ol d fl : F32} {j hN kN : Nat → Int64} (ht : ∀ q, q < e.2.1 → t q = eI (e.1 q)) (R : CLd e p i j) (h1 : oK e p = 1) (L : LSk S) (M : CR S it il gl hl ol d fl hN kN) (hE : r = hlS e p S k) {Q : QCR} (ok : ∀ it' i' j' il' gl' hN' kN' hl' ol' d' fl' p' S', r = semS e p' (k (oX e p') S') → LSk S' → CRd e p' i' → CR S' it' il' gl' hl' ol' d' fl' hN' kN' → Q 1 it' i' j' il' gl' hN' kN' hl' ol' d' fl') (bad : ∀ it' i' j' il' gl' hN' kN' hl' ol' d' fl', CFl r i' → Q 0 it' i' j' il' gl' hN' kN' hl' ol' d' fl') : w_LineReader_readHalt il i j t hN kN hl (fun z il' i' j' hN' hl' => Q z it i' j' il' gl hN' kN hl' ol d fl) := by
  have O := L.o
  have hc := O.hc
  have hkc := O.kc
  have hu := O.u
  have hlo := loH_sp O
  unfold hlS at hE
  unfold w_LineReader_readHalt
  rw [M.I.hc]
  refine q_lt (b := 10) (by (first | exact B31_s (by omega) (by omega) | exact B31_of _ | (constructor <;> omega))) (by (first | exact B31_s (by omega) (by omega) | exact B31_of _ | (constructor <;> omega))) (fun h10 => ?_) (fun h10 => ?_)
  · rw [if_neg (by omega)] at hE
    refine C_newName X ht (R.r (by omega) (by omega)) L M hE (fun i2 j2 hE2 hn R2 h7 => ?_) (fun i2 j2 F => by (first | refine z0T ?_ | refine z0N ?_); exact bad _ _ _ _ _ _ _ _ _ _ _ F)
    (first | refine z1T ?_ | refine z1N ?_)
    refine And.intro (eI_in (by omega) (by omega) (by omega)) ?_
    have tn : (eI (S.h 1)).toNatClampNeg = (S.h 1).toNat := eI_cl (by omega) (by omega)
    rw [tn, h7]
    clear tn
    generalize hnm : vp_updL hN (S.h 1).toNat (eJ (oL e (oX e p))) = hN2
    have main : j_LineReader_readHalt_65 il i2 j2 t hN2 hl (eI (S.h 1)) (eI (loH S.h)) (fun z il' i' j' hN' hl' => Q z it i' j' il' gl hN' kN hl' ol d fl) := by
      unfold j_LineReader_readHalt_65
      rw [M.I.u]
      have e1 : eI (S.h 0) - 1 = eI (S.h 0 - 1) := by (try simp only [eI_lit, eI_neg, eI_add, eI_sub, eI_mul, eF_ap, upd_eF])
      rw [e1]
      refine C_nextNumber X ht R2 (by (first | exact B31_s (by omega) (by omega) | exact B31_of _ | (constructor <;> omega))) (by (first | exact B31_s (by omega) (by omega) | exact B31_of _ | (constructor <;> omega))) hE2 (fun i3 j3 hE3 o3 l3 g3 h63 R3 => ?_) (fun i3 j3 F => by (first | refine z0T ?_ | refine z0N ?_); exact bad _ _ _ _ _ _ _ _ _ _ _ F)
      (first | refine z1T ?_ | refine z1N ?_)
      have t0 : (3 : Int32) * eI (S.h 1) = eI ((3 * (S.h 1).toNat : Nat) : Int) := by (try simp only [eI_lit, eI_neg, eI_add, eI_sub, eI_mul, eF_ap, upd_eF]); congr 1; omega
      rw [t0]
      refine And.intro (eI_in (by omega) (by omega) (by omega)) ?_; (try simp (disch := omega) only [eI_cl, Int.toNat_natCast])
      refine C_nextNumber (lo := 1) (hi := 99) X ht R3 (by (first | exact B31_s (by omega) (by omega) | exact B31_of _ | (constructor <;> omega))) (by (first | exact B31_s (by omega) (by omega) | exact B31_of _ | (constructor <;> omega))) hE3 (fun i4 j4 hE4 o4 l4 g4 h64 R4 => ?_) (fun i4 j4 F => by (first | refine z0T ?_ | refine z0N ?_); exact bad _ _ _ _ _ _ _ _ _ _ _ F)
      (first | refine z1T ?_ | refine z1N ?_)
      have t1 : eI ((3 * (S.h 1).toNat : Nat) : Int) + 1 = eI ((3 * (S.h 1).toNat + 1 : Nat) : Int) := by (try simp only [eI_lit, eI_neg, eI_add, eI_sub, eI_mul, eF_ap, upd_eF]); congr 1
      have t2 : eI ((3 * (S.h 1).toNat : Nat) : Int) + 2 = eI ((3 * (S.h 1).toNat + 2 : Nat) : Int) := by (try simp only [eI_lit, eI_neg, eI_add, eI_sub, eI_mul, eF_ap, upd_eF]); congr 1
      rw [t1, t2]
      refine And.intro (eI_in (by omega) (by omega) (by omega)) ?_
      refine And.intro (eI_in (by omega) (by omega) (by omega)) ?_
      (try simp (disch := omega) only [eI_cl, Int.toNat_natCast])
      rw [h63, h64, M.I.hc]
      have t4 : eI (S.h 1) + 1 = eI (S.h 1 + 1) := by (try simp only [eI_lit, eI_neg, eI_add, eI_sub, eI_mul, eF_ap, upd_eF])
      rw [t4]
      have f : ∀ q, q ≠ 1 → q < 411 ∨ 441 ≤ q → haH S.h (oV e (oX e (oX e p))) (oV e (oX e (oX e (oX e p)))) q = S.h q := fun q a b => haH_n a (by omega)
      refine ok _ _ _ _ _ _ _ _ _ _ _ _ _ hE4 (haU_k L (by omega) ⟨l3, g3⟩ ⟨l4, g4⟩ (oW_n hn.1)) R4 ⟨M.sl, M.on, fun kk hk => ?_, fun kk hk => ?_, M.I.cg (h' := haH S.h (oV e (oX e (oX e p))) (oV e (oX e (oX e (oX e p))))) (n := 1) (c := 3) (by omega) haH_1 (fun q a b => f q b (by omega)) rfl, M.G.cg O (f 0 (by omega) (by omega)) (fun q a b => f q (by omega) (by omega)), fun kk hk => ?_, M.O.cg O (f 2 (by omega) (by omega)) (fun q a b => f q (by omega) (by omega)), M.D.cg O (f 3 (by omega) (by omega)) (fun q a b => f q (by omega) (by omega)), M.F.cg O (f 10 (by omega) (by omega)) (fun q a b => f q (by omega) (by omega))⟩
      · have hk' : (kk : Int) < haH S.h (oV e (oX e (oX e p))) (oV e (oX e (oX e (oX e p)))) 1 := hk
        rw [haH_1] at hk'
        show hN2 kk = eJ (updI S.nl (16 + (S.h 1).toNat) (oL e (oX e p)) (16 + kk))
        rw [← hnm]
        by_cases ek : kk = (S.h 1).toNat
        · subst ek; rw [updL_s, updI_s]
        · rw [updL_n (by omega), updI_n _ (by omega)]; exact M.n1 kk (by omega)
      · have hk' : (kk : Int) < haH S.h (oV e (oX e (oX e p))) (oV e (oX e (oX e (oX e p)))) 3 := hk
        rw [haH_n (by omega) (by omega)] at hk'
        show kN kk = eJ (updI S.nl (16 + (S.h 1).toNat) (oL e (oX e p)) (26 + kk))
        rw [updI_n _ (by omega)]; exact M.n2 kk hk'
      · have hk' : (kk : Int) < haH S.h (oV e (oX e (oX e p))) (oV e (oX e (oX e (oX e p)))) 1 := hk
        rw [haH_1] at hk'
        show _ = eI (AT (haH S.h (oV e (oX e (oX e p))) (oV e (oX e (oX e (oX e p))))) kk) ∧ _ = eI (HL (haH S.h (oV e (oX e (oX e p))) (oV e (oX e (oX e (oX e p))))) kk) ∧ _ = eI (AD (haH S.h (oV e (oX e (oX e p))) (oV e (oX e (oX e (oX e p))))) kk)
        rcases haH_AT (a := oV e (oX e (oX e p))) (b := oV e (oX e (oX e (oX e p)))) O kk hk' with ⟨a1, q1, q2, q3⟩ | ⟨a1, q1, q2, q3⟩
        · rw [q1, q2, q3]
          have := M.H kk a1
          rw [upd_n (by omega), upd_n (by omega), upd_n (by omega), upd_n (by omega), upd_n (by omega), upd_n (by omega), upd_n (by omega), upd_n (by omega), upd_n (by omega)]
          exact this
        · rw [q1, q2, q3, a1]
          refine ⟨?_, ?_, ?_⟩
          · rw [upd_n (by omega), upd_n (by omega), upd_s]
          · rw [upd_n (by omega), upd_s]
          · rw [upd_s]; rfl
    refine q_ne (b := 0) (by (first | exact B31_s (by omega) (by omega) | exact B31_of _ | (constructor <;> omega))) (by (first | exact B31_s (by omega) (by omega) | exact B31_of _ | (constructor <;> omega))) (fun hne => ?_) (fun he => ?_)
    · unfold w_Line_haltAt
      have t0 : (3 : Int32) * (eI (S.h 1) - 1) = eI ((3 * ((S.h 1).toNat - 1) : Nat) : Int) := by (try simp only [eI_lit, eI_neg, eI_add, eI_sub, eI_mul, eF_ap, upd_eF]); congr 1; omega
      rw [t0]
      refine And.intro (eI_in (by omega) (by omega) (by omega)) ?_; (try simp (disch := omega) only [eI_cl, Int.toNat_natCast])
      have e2 : hl (3 * ((S.h 1).toNat - 1)) + 1 = eI (loH S.h) := by
        rw [(M.H ((S.h 1).toNat - 1) (by omega)).1]
        unfold loH
        rw [if_neg hne]
        have e3 : AT S.h (((S.h 1).toNat - 1 : Nat) : Int) = S.h (411 + 3 * (S.h 1).toNat - 3) := by unfold AT; congr 1; omega
        rw [e3]; (try simp only [eI_lit, eI_neg, eI_add, eI_sub, eI_mul, eF_ap, upd_eF])
      rw [e2]; exact main
    · have e2 : (0 : Int32) = eI (loH S.h) := by unfold loH; rw [if_pos he]; rfl
      rw [e2]; exact main
  · rw [if_pos (by omega)] at hE
    exact C_failHere X R (by omega) (by omega) hE rfl (fun i' F => bad _ _ _ _ _ _ _ _ _ _ _ F)
