/-! line: what is read so far -/
abbrev LRS := (Nat → Int) × (Nat → Int) × (Nat → Int) × Nat × (Nat → Bool)
abbrev LRS.h (S : LRS) : Nat → Int := S.1
abbrev LRS.nw (S : LRS) : Nat → Int := S.2.1
abbrev LRS.nl (S : LRS) : Nat → Int := S.2.2.1
abbrev LRS.sl (S : LRS) : Nat := S.2.2.2.1
abbrev LRS.on (S : LRS) : Nat → Bool := S.2.2.2.2
def LSk (S : LRS) : Prop :=
  (LOk S.h) ∧
  (S.sl ≤ 20) ∧
  (∀ k : Nat, (k : Int) < S.h 1 → WN (S.nw (16 + k)) (S.nl (16 + k))) ∧
  (∀ k : Nat, (k : Int) < S.h 3 → WN (S.nw (26 + k)) (S.nl (26 + k))) ∧
  (S.on 5 = false → S.h 10 = 0)
theorem LSk.o {S : LRS} (h : LSk S) : LOk S.h := h.1
theorem LSk.sl {S : LRS} (h : LSk S) : S.sl ≤ 20 := h.2.1
theorem LSk.n1 {S : LRS} (h : LSk S) : ∀ k : Nat, (k : Int) < S.h 1 → WN (S.nw (16 + k)) (S.nl (16 + k)) := h.2.2.1
theorem LSk.n2 {S : LRS} (h : LSk S) : ∀ k : Nat, (k : Int) < S.h 3 → WN (S.nw (26 + k)) (S.nl (26 + k)) := h.2.2.2.1
theorem LSk.f5 {S : LRS} (h : LSk S) : S.on 5 = false → S.h 10 = 0 := h.2.2.2.2
def MR (S : LRS) (i hA : F32) (nm : Nat → Int64) : Prop :=
  (hA = eF S.h) ∧
  (i 20 = eI S.sl) ∧
  (∀ k, k < 6 → bitN (i 21) k = S.on k) ∧
  (∀ k : Nat, (k : Int) < S.h 1 → nm (16 + k) = eJ (S.nw (16 + k))) ∧
  (∀ k : Nat, (k : Int) < S.h 3 → nm (26 + k) = eJ (S.nw (26 + k)))
theorem MR.h {S : LRS} {i hA : F32} {nm : Nat → Int64} (h : MR S i hA nm) : hA = eF S.h := h.1
theorem MR.sl {S : LRS} {i hA : F32} {nm : Nat → Int64} (h : MR S i hA nm) : i 20 = eI S.sl := h.2.1
theorem MR.on {S : LRS} {i hA : F32} {nm : Nat → Int64} (h : MR S i hA nm) : ∀ k, k < 6 → bitN (i 21) k = S.on k := h.2.2.1
theorem MR.n1 {S : LRS} {i hA : F32} {nm : Nat → Int64} (h : MR S i hA nm) : ∀ k : Nat, (k : Int) < S.h 1 → nm (16 + k) = eJ (S.nw (16 + k)) := h.2.2.2.1
theorem MR.n2 {S : LRS} {i hA : F32} {nm : Nat → Int64} (h : MR S i hA nm) : ∀ k : Nat, (k : Int) < S.h 3 → nm (26 + k) = eJ (S.nw (26 + k)) := h.2.2.2.2
def CR (S : LRS) (it il gl hl ol d fl : F32) (hN kN : Nat → Int64) : Prop :=
  (it 4 = eI S.sl) ∧
  (∀ k, k < 6 → bitN (it 5) (k + 5) = S.on k) ∧
  (∀ k : Nat, (k : Int) < S.h 1 → hN k = eJ (S.nl (16 + k))) ∧
  (∀ k : Nat, (k : Int) < S.h 3 → kN k = eJ (S.nl (26 + k))) ∧
  (LnI S.h il) ∧
  (LnG S.h gl) ∧
  (LnH S.h hl) ∧
  (LnO S.h ol) ∧
  (LnK S.h d) ∧
  (LnF S.h fl)
theorem CR.sl {S : LRS} {it il gl hl ol d fl : F32} {hN kN : Nat → Int64} (h : CR S it il gl hl ol d fl hN kN) : it 4 = eI S.sl := h.1
theorem CR.on {S : LRS} {it il gl hl ol d fl : F32} {hN kN : Nat → Int64} (h : CR S it il gl hl ol d fl hN kN) : ∀ k, k < 6 → bitN (it 5) (k + 5) = S.on k := h.2.1
theorem CR.n1 {S : LRS} {it il gl hl ol d fl : F32} {hN kN : Nat → Int64} (h : CR S it il gl hl ol d fl hN kN) : ∀ k : Nat, (k : Int) < S.h 1 → hN k = eJ (S.nl (16 + k)) := h.2.2.1
theorem CR.n2 {S : LRS} {it il gl hl ol d fl : F32} {hN kN : Nat → Int64} (h : CR S it il gl hl ol d fl hN kN) : ∀ k : Nat, (k : Int) < S.h 3 → kN k = eJ (S.nl (26 + k)) := h.2.2.2.1
theorem CR.I {S : LRS} {it il gl hl ol d fl : F32} {hN kN : Nat → Int64} (h : CR S it il gl hl ol d fl hN kN) : LnI S.h il := h.2.2.2.2.1
theorem CR.G {S : LRS} {it il gl hl ol d fl : F32} {hN kN : Nat → Int64} (h : CR S it il gl hl ol d fl hN kN) : LnG S.h gl := h.2.2.2.2.2.1
theorem CR.H {S : LRS} {it il gl hl ol d fl : F32} {hN kN : Nat → Int64} (h : CR S it il gl hl ol d fl hN kN) : LnH S.h hl := h.2.2.2.2.2.2.1
theorem CR.O {S : LRS} {it il gl hl ol d fl : F32} {hN kN : Nat → Int64} (h : CR S it il gl hl ol d fl hN kN) : LnO S.h ol := h.2.2.2.2.2.2.2.1
theorem CR.D {S : LRS} {it il gl hl ol d fl : F32} {hN kN : Nat → Int64} (h : CR S it il gl hl ol d fl hN kN) : LnK S.h d := h.2.2.2.2.2.2.2.2.1
theorem CR.F {S : LRS} {it il gl hl ol d fl : F32} {hN kN : Nat → Int64} (h : CR S it il gl hl ol d fl hN kN) : LnF S.h fl := h.2.2.2.2.2.2.2.2.2
/-- what a row leaves: length, rows, bestMany, loadMany, hasJudged -/
def KLr (i i' : F32) : Prop := i' 2 = i 2 ∧ i' 19 = i 19 ∧ i' 33 = i 33 ∧ i' 38 = i 38 ∧ i' 44 = i 44
theorem KLr.tr {i i' i'' : F32} (h : KLr i i') (h' : KLr i' i'') : KLr i i'' := ⟨h'.1.trans h.1, h'.2.1.trans h.2.1, h'.2.2.1.trans h.2.2.1, h'.2.2.2.1.trans h.2.2.2.1, h'.2.2.2.2.trans h.2.2.2.2⟩
theorem KN.at_ {i i' : F32} (h : KN i i') {q : Nat} (h1 : 19 ≤ q ∨ q = 2) : i' q = i q := h q (by omega) (by omega) (by omega) (by omega) (by omega) (by omega) (by omega) (by omega)
theorem KN.l {i i' : F32} (h : KN i i') : KLr i i' := ⟨h.at_ (by omega), h.at_ (by omega), h.at_ (by omega), h.at_ (by omega), h.at_ (by omega)⟩
theorem KLr.u {i : F32} {q : Nat} {x : Int32} (h2 : q ≠ 2) (h1 : q ≠ 19) (h3 : q ≠ 33) (h4 : q ≠ 38) (h5 : q ≠ 44) : KLr i (upd i q x) := ⟨upd_n (by omega), upd_n (by omega), upd_n (by omega), upd_n (by omega), upd_n (by omega)⟩
theorem MR.k {S : LRS} {i i' hA : F32} {nm : Nat → Int64} (M : MR S i hA nm) (h : KN i i') : MR S i' hA nm := ⟨M.h, by rw [h.at_ (by omega)]; exact M.sl, by rw [h.at_ (q := 21) (by omega)]; exact M.on, M.n1, M.n2⟩
/-! slope -/
def slh (h : Nat → Int) (g : Int) (n : Nat) : Nat → Int := fun q => if 11 + (h 0).toNat ≤ q ∧ q < 11 + (h 0).toNat + n then g else h q
theorem slh_n {h : Nat → Int} {g : Int} {n q : Nat} (hq : q < 11 + (h 0).toNat ∨ 11 + (h 0).toNat + n ≤ q) : slh h g n q = h q := by unfold slh; rw [if_neg (by omega)]
theorem slh_i {h : Nat → Int} {g : Int} {n q : Nat} (hq : 11 + (h 0).toNat ≤ q) (h2 : q < 11 + (h 0).toNat + n) : slh h g n q = g := by unfold slh; rw [if_pos ⟨hq, h2⟩]
theorem slh_0 {h : Nat → Int} {g : Int} : slh h g 0 = h := by funext q; unfold slh; rw [if_neg (by omega)]
theorem slh_s {h : Nat → Int} {g : Int} {n : Nat} : updI (slh h g n) (11 + (h 0).toNat + n) g = slh h g (n + 1) := by
  funext q
  unfold updI slh
  by_cases e : q = 11 + (h 0).toNat + n
  · rw [if_pos e, if_pos (by omega)]
  · rw [if_neg e]
    by_cases e2 : 11 + (h 0).toNat ≤ q ∧ q < 11 + (h 0).toNat + n
    · rw [if_pos e2, if_pos (by omega)]
    · rw [if_neg e2, if_neg (by omega)]
def slH (h : Nat → Int) (g : Int) (n : Nat) : Nat → Int := updI (slh h g n) 0 (h 0 + n)
theorem slH_0 {h : Nat → Int} {g : Int} {n : Nat} : slH h g n 0 = h 0 + n := by unfold slH updI; rw [if_pos rfl]
theorem slH_n {h : Nat → Int} {g : Int} {n q : Nat} (h0 : q ≠ 0) (hq : q < 11 + (h 0).toNat ∨ 11 + (h 0).toNat + n ≤ q) : slH h g n q = h q := by unfold slH updI; rw [if_neg h0]; exact slh_n hq
theorem slH_i {h : Nat → Int} {g : Int} {n q : Nat} (hq : 11 + (h 0).toNat ≤ q) (h2 : q < 11 + (h 0).toNat + n) : slH h g n q = g := by unfold slH updI; rw [if_neg (by omega)]; exact slh_i hq h2
theorem slH_ok {h : Nat → Int} {g : Int} {n : Nat} (O : LOk h) (hg : -9 ≤ g ∧ g ≤ 9) (hn : h 0 + n ≤ 400) : LOk (slH h g n) := by
  have hu := O.u
  have f : ∀ q, 1 ≤ q → q < 11 ∨ 411 ≤ q → slH h g n q = h q := fun q h1 h2 => slH_n (by omega) (by omega)
  have hAT : ∀ k : Nat, AT (slH h g n) k = AT h k := fun k => f _ (by omega) (by omega)
  have hHL : ∀ k : Nat, HL (slH h g n) k = HL h k := fun k => f _ (by omega) (by omega)
  have hAD : ∀ k : Nat, AD (slH h g n) k = AD h k := fun k => by unfold AD; rw [f _ (by omega) (by omega)]
  have e1 := f 1 (by omega) (by omega)
  have e2 := f 2 (by omega) (by omega)
  have e3 := f 3 (by omega) (by omega)
  have e10 := f 10 (by omega) (by omega)
  refine ⟨by rw [slH_0]; omega, by rw [e1]; exact O.hc, by rw [e2]; exact O.lc, by rw [e3]; exact O.kc, by rw [f 4 (by omega) (by omega)]; exact O.pull, by rw [f 5 (by omega) (by omega)]; exact O.eng, by rw [f 6 (by omega) (by omega)]; exact O.rub, by rw [f 7 (by omega) (by omega)]; exact O.sand, by rw [f 8 (by omega) (by omega)]; exact O.wear, by rw [f 9 (by omega) (by omega)]; exact O.walk, by rw [e10]; exact O.fc, fun j hj => ?_, fun k hk => ?_, fun k hk => ?_, fun k hk => ?_, fun j k hjk hk => ?_, fun k hk => ?_, fun k h0 hk => ?_, fun k hk => ?_⟩
  · by_cases hi : 11 + (h 0).toNat ≤ 11 + j ∧ 11 + j < 11 + (h 0).toNat + n
    · rw [slH_i hi.1 hi.2]; exact hg
    · rw [slH_n (by omega) (by omega)]; exact O.gr j hj
  · rw [e1] at hk
    have := O.at_ k hk
    rw [hAT, slH_0]; omega
  · rw [e1] at hk; rw [hHL]; exact O.hl k hk
  · rw [e1] at hk; rw [hAD, e3]; exact O.ad k hk
  · rw [e1] at hk; rw [hAT, hAT]; exact O.asc j k hjk hk
  · rw [e2] at hk
    have := O.lp k hk
    rw [slH_0, f (441 + 2 * k) (by omega) (by omega), f (441 + 2 * k + 1) (by omega) (by omega)]; omega
  · rw [e3] at hk
    have := O.kd k h0 hk
    unfold LG WT ST at *
    rw [f _ (by omega) (by omega), f _ (by omega) (by omega), f _ (by omega) (by omega)]; exact this
  · rw [e10] at hk
    rw [f _ (by omega) (by omega), e3]; exact O.tr k hk
noncomputable def slB (e : TXX) (p : Nat) (sg : Int) (S : LRS) (k : Nat → LRS → RS) : RS :=
  numS e p 0 9 (numS e (oX e p) 1 99 (if 400 < S.h 0 + oV e (oX e p) then flt 4 (oP e (oX e p)) else semS e (oX e (oX e p)) (k (oX e (oX e (oX e p))) (slH S.h (sg * oV e p) (oV e (oX e p)).toNat, S.nw, S.nl, S.sl + 1, S.on))))
noncomputable def slS (e : TXX) (p : Nat) (S : LRS) (k : Nat → LRS → RS) : RS :=
  if S.sl = 20 then flt 4 (oP e p) else if oK e (oX e p) = 5 then slB e (oX e (oX e p)) (-1) S k else slB e (oX e p) 1 S k
abbrev QRow := Int32 → F32 → (Nat → Int64) → F32 → (Nat → Int64) → Prop
theorem M_slB {e : TXX} {p : Nat} {S : LRS} {r : RS} {k : Nat → LRS → RS} {sg : Int} (X : TK e) {i t : F32} {j nm : Nat → Int64} (ht : ∀ q, q < e.2.1 → t q &&& 255 = eI (e.1 q)) (R : RLd e p i j) (L : LSk S) (hsl : S.sl < 20) (h20 : i 20 = eI ((S.sl + 1 : Nat) : Int)) (M : ∀ i' hA, hA = eF S.h → i' 20 = eI S.sl → i' 21 = i 21 → MR S i' hA nm) (hsg : sg = 1 ∨ sg = -1) (hE : r = slB e p sg S k) {z : Int32} (hz : z = if sg = 1 then 0 else 1) {Q : QRow} (ok : ∀ i' j' p' S' h' nm', r = semS e p' (k (oX e p') S') → LSk S' → RLd e p' i' j' → MR S' i' h' nm' → KLr i i' → Q 1 i' j' h' nm') (bad : ∀ i' j' h' nm', RFl r i' → KLr i i' → Q 0 i' j' h' nm') : j_LongTrainModel_readSlope_44 i j t (eF S.h) z (fun z i' j' h' => Q z i' j' h' nm) := by
  have O := L.o
  have hu := O.u
  unfold slB at hE
  unfold j_LongTrainModel_readSlope_44
  refine M_takes (lo := 0) (hi := 9) X ht R (by (first | exact B31_s (by omega) (by omega) | exact B31_of _ | (constructor <;> omega))) (by (first | exact B31_s (by omega) (by omega) | exact B31_of _ | (constructor <;> omega))) hE (fun i2 j2 hE2 o2 l2 g2 h18 R2 K2 => ?_) (fun i2 j2 F K2 => by (first | refine z0T ?_ | refine z0N ?_); exact bad _ _ _ _ F K2.l)
  (first | refine z1T ?_ | refine z1N ?_)
  have main : j_LongTrainModel_readSlope_72 i2 j2 t (eF S.h) (eI (sg * oV e p)) (fun z i' j' h' => Q z i' j' h' nm) := by
    have hs := rso_1 (e := e) (oK_le e (oX e p))
    unfold j_LongTrainModel_readSlope_72
    unfold numS at hE2
    rw [R2.s]
    refine q_eq (b := 2) (by (first | exact B31_s (by omega) (by omega) | exact B31_of _ | (constructor <;> omega))) (by (first | exact B31_s (by omega) (by omega) | exact B31_of _ | (constructor <;> omega))) (fun h2 => ?_) (fun h2 => ?_)
    · have hk2 : oK e (oX e p) = 2 := hs.2.1.mp h2
      have hv := oV_bd hk2
      rw [if_neg (by omega)] at hE2
      rw [R2.v hk2]
      refine M_isIn (b := 1) (c := 99) (by (first | exact B31_s (by omega) (by omega) | exact B31_of _ | (constructor <;> omega))) (by (first | exact B31_s (by omega) (by omega) | exact B31_of _ | (constructor <;> omega))) (by (first | exact B31_s (by omega) (by omega) | exact B31_of _ | (constructor <;> omega))) (fun a1 a2 => ?_) (fun a => ?_)
      · (first | refine z1T ?_ | refine z1N ?_)
        rw [if_neg (by omega)] at hE2
        rw [eF_ap, eI_add]
        refine q_le (b := 400) (by (first | exact B31_s (by omega) (by omega) | exact B31_of _ | (constructor <;> omega))) (by (first | exact B31_s (by omega) (by omega) | exact B31_of _ | (constructor <;> omega))) (fun h400 => ?_) (fun h400 => ?_)
        · rw [if_neg (by omega)] at hE2
          generalize hnn : (oV e (oX e p)).toNat = n at *
          have hvn : oV e (oX e p) = (n : Int) := by omega
          have R2r : RNx e (oX e (oX e p)) i2 := R2.r (by omega) (by omega)
          have R2v : i2 14 = eI (n : Int) := by rw [R2.v hk2, hvn]
          refine lg_LongTrainModel_readSlope_131 (G := Nat) (fun q x hA => q ≤ n ∧ x = eI ((q : Nat) : Int) ∧ hA = eF (slh S.h (sg * oV e p) q)) (fun q => n - q) ?_ 0 ⟨by omega, rfl, by rw [slh_0]⟩
          rintro kr q x hA ⟨hq, rfl, rfl⟩ hst
          unfold b_LongTrainModel_readSlope_131
          rw [R2v]
          refine q_le (by (first | exact B31_s (by omega) (by omega) | exact B31_of _ | (constructor <;> omega))) (by (first | exact B31_s (by omega) (by omega) | exact B31_of _ | (constructor <;> omega))) (fun hle => ?_) (fun hlt => ?_)
          · have eq : q = n := by omega
            subst eq
            refine M_nxt X ht R2r (fun i3 j3 R3 K3 _ => ?_)
            have e0 : eF (slh S.h (sg * oV e p) q) 0 = eI (S.h 0) := by rw [eF_ap, slh_n (by omega)]
            rw [e0, hvn, eI_add, upd_eF]
            have KK : KN i i3 := K2.tr K3
            have M0 := M (upd i3 20 (eI S.sl)) (eF S.h) rfl upd_s (by rw [upd_n (by omega)]; exact KK.at_ (by omega))
            refine ok _ _ _ _ _ _ hE2 ⟨slH_ok O (by rcases hsg with rfl | rfl <;> omega) (by omega), by show S.sl + 1 ≤ 20; omega, fun kk hk => L.n1 kk ?_, fun kk hk => L.n2 kk ?_, fun h5 => (slH_n (by omega) (by omega)).trans (L.f5 h5)⟩ R3 ⟨rfl, by rw [KK.at_ (by omega)]; exact h20, fun kk hk => ?_, fun kk hk => M0.n1 kk ?_, fun kk hk => M0.n2 kk ?_⟩ KK.l
            · have : slH S.h (sg * oV e p) q 1 = S.h 1 := slH_n (by omega) (by omega)
              rw [← this]; exact hk
            · have : slH S.h (sg * oV e p) q 3 = S.h 3 := slH_n (by omega) (by omega)
              rw [← this]; exact hk
            · have := M0.on kk hk
              rw [upd_n (by omega)] at this; exact this
            · have : slH S.h (sg * oV e p) q 1 = S.h 1 := slH_n (by omega) (by omega)
              rw [← this]; exact hk
            · have : slH S.h (sg * oV e p) q 3 = S.h 3 := slH_n (by omega) (by omega)
              rw [← this]; exact hk
          · have e0 : eF (slh S.h (sg * oV e p) q) 0 = eI (S.h 0) := by rw [eF_ap, slh_n (by omega)]
            rw [e0]
            have e1 : (11 : Int32) + eI (S.h 0) + eI (q : Int) = eI ((11 + (S.h 0).toNat + q : Nat) : Int) := by (try simp only [eI_lit, eI_neg, eI_add, eI_sub, eI_mul, eF_ap, upd_eF]); congr 1; omega
            rw [e1]
            refine And.intro (eI_in (by omega) (by omega) (by omega)) ?_; (try simp (disch := omega) only [eI_cl, Int.toNat_natCast])
            rw [upd_eF, slh_s]
            exact hst (q + 1) _ _ (by omega) ⟨by omega, by (try simp only [eI_lit, eI_neg, eI_add, eI_sub, eI_mul, eF_ap, upd_eF]); congr 1, rfl⟩
        · rw [if_pos (by omega)] at hE2
          exact M_bad X R2 (by omega) (by omega) hE2 rfl (fun i' F K => bad _ _ _ _ F (K2.tr K).l)
      · (first | refine z0T ?_ | refine z0N ?_)
        rw [if_pos a] at hE2
        exact M_bad X R2 (by omega) (by omega) hE2 rfl (fun i' F K => bad _ _ _ _ F (K2.tr K).l)
    · have hk2 : oK e (oX e p) ≠ 2 := fun h => h2 (hs.2.1.mpr h)
      rw [if_pos hk2] at hE2
      exact M_bad X R2 (by omega) (by omega) hE2 rfl (fun i' F K => bad _ _ _ _ F (K2.tr K).l)
  rw [h18]
  rcases hsg with rfl | rfl
  · rw [if_pos rfl] at hz
    subst hz
    rw [Int.one_mul] at main
    exact ⟨fun _ => main, fun h => absurd rfl h⟩
  · rw [if_neg (by omega)] at hz
    subst hz
    refine ⟨fun h => absurd h one_ne, fun _ => ?_⟩
    have e1 : -eI (oV e p) = eI (-1 * oV e p) := by (try simp only [eI_lit, eI_neg, eI_add, eI_sub, eI_mul, eF_ap, upd_eF]); congr 1; omega
    rw [e1]; exact main
theorem M_slope {e : TXX} {p : Nat} {S : LRS} {r : RS} {k : Nat → LRS → RS} (X : TK e) {i t hA : F32} {j nm : Nat → Int64} (ht : ∀ q, q < e.2.1 → t q &&& 255 = eI (e.1 q)) (R : RLd e p i j) (h1 : oK e p = 1) (L : LSk S) (M : MR S i hA nm) (hE : r = slS e p S k) {Q : QRow} (ok : ∀ i' j' p' S' h' nm', r = semS e p' (k (oX e p') S') → LSk S' → RLd e p' i' j' → MR S' i' h' nm' → KLr i i' → Q 1 i' j' h' nm') (bad : ∀ i' j' h' nm', RFl r i' → KLr i i' → Q 0 i' j' h' nm') : w_LongTrainModel_readSlope i j t hA (fun z i' j' h' => Q z i' j' h' nm) := by
  have hsl := L.sl
  unfold slS at hE
  unfold w_LongTrainModel_readSlope
  rw [M.sl]
  refine q_ne (b := 20) (by (first | exact B31_s (by omega) (by omega) | exact B31_of _ | (constructor <;> omega))) (by (first | exact B31_s (by omega) (by omega) | exact B31_of _ | (constructor <;> omega))) (fun h20 => ?_) (fun h20 => ?_)
  · rw [if_neg (by omega)] at hE
    rw [M.h]
    have e20 : eI (S.sl : Int) + 1 = eI ((S.sl + 1 : Nat) : Int) := by (try simp only [eI_lit, eI_neg, eI_add, eI_sub, eI_mul, eF_ap, upd_eF]); congr 1
    rw [e20]
    refine M_nxt X ht ((R.r (by omega) (by omega)).u (by omega) (by omega) (by omega) (by omega)) (fun i1 j1 R1 K1 _ => ?_)
    have hkl : KLr i i1 := (KLr.u (by omega) (by omega) (by omega) (by omega) (by omega)).tr K1.l
    have i20 : i1 20 = eI ((S.sl + 1 : Nat) : Int) := by rw [K1.at_ (by omega), upd_s]
    have i21 : i1 21 = i 21 := by rw [K1.at_ (by omega), upd_n (by omega)]
    have MM : ∀ i' hA, hA = eF S.h → i' 20 = eI S.sl → i' 21 = i1 21 → MR S i' hA nm := fun i' hA a b c => ⟨a, b, by rw [c, i21]; exact M.on, M.n1, M.n2⟩
    refine M_isMinus R1 (fun h5 => ?_) (fun h5 => ?_)
    · (first | refine z1T ?_ | refine z1N ?_)
      rw [if_pos h5] at hE
      refine M_nxt X ht (R1.r (by omega) (by omega)) (fun i2 j2 R2 K2 _ => ?_)
      refine M_slB (sg := -1) X ht R2 L (by omega) (by rw [K2.at_ (by omega)]; exact i20) (fun i' hA a b c => MM i' hA a b (c.trans (K2.at_ (by omega)))) (Or.inr rfl) hE rfl (fun i' j' p' S' h' nm' a1 a2 a3 a4 a5 => ok i' j' p' S' h' nm' a1 a2 a3 a4 ((hkl.tr K2.l).tr a5)) (fun i' j' h' nm' a1 a2 => bad i' j' h' nm' a1 ((hkl.tr K2.l).tr a2))
    · (first | refine z0T ?_ | refine z0N ?_)
      rw [if_neg h5] at hE
      exact M_slB (sg := 1) X ht R1 L (by omega) i20 MM (Or.inl rfl) hE rfl (fun i' j' p' S' h' nm' a1 a2 a3 a4 a5 => ok i' j' p' S' h' nm' a1 a2 a3 a4 (hkl.tr a5)) (fun i' j' h' nm' a1 a2 => bad i' j' h' nm' a1 (hkl.tr a2))
  · rw [if_pos (by omega)] at hE
    exact M_bad X R (by omega) (by omega) hE rfl (fun i' F K => bad _ _ _ _ F K.l)
