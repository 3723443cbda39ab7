/-! line: slope of the class -/
theorem LnG.cg {h h' : Nat → Int} {g : F32} (O : LOk h) (h0 : h' 0 = h 0) (e : ∀ q, 11 ≤ q → q < 411 → h' q = h q) (G : LnG h g) : LnG h' g := fun j hj => by
  have := O.u
  rw [h0] at hj; rw [e _ (by omega) (by omega)]; exact G j hj
theorem LnH.cg {h h' : Nat → Int} {g : F32} (O : LOk h) (h0 : h' 1 = h 1) (e : ∀ q, 411 ≤ q → q < 441 → h' q = h q) (G : LnH h g) : LnH h' g := fun k hk => by
  have := O.hc
  rw [h0] at hk
  have := G k hk
  unfold AT HL AD at *
  rw [e _ (by omega) (by omega), e _ (by omega) (by omega), e _ (by omega) (by omega)]; exact this
theorem LnO.cg {h h' : Nat → Int} {g : F32} (O : LOk h) (h0 : h' 2 = h 2) (e : ∀ q, 441 ≤ q → q < 457 → h' q = h q) (G : LnO h g) : LnO h' g := fun j hj => by
  have := O.lc
  rw [h0] at hj; rw [e _ (by omega) (by omega)]; exact G j hj
theorem LnK.cg {h h' : Nat → Int} {g : F32} (O : LOk h) (h0 : h' 3 = h 3) (e : ∀ q, 457 ≤ q → q < 475 → h' q = h q) (G : LnK h g) : LnK h' g := fun j hj => by
  have := O.kc
  rw [h0] at hj; rw [e _ (by omega) (by omega)]; exact G j hj
theorem LnF.cg {h h' : Nat → Int} {g : F32} (O : LOk h) (h0 : h' 10 = h 10) (e : ∀ q, 475 ≤ q → q < 483 → h' q = h q) (G : LnF h g) : LnF h' g := fun j hj => by
  have := O.fc
  rw [h0] at hj; rw [e _ (by omega) (by omega)]; exact G j hj
theorem C_nextNum2 {e : TXX} {p : Nat} {r k : RS} {lo hi : Int} (X : TK e) {i t : F32} {j : Nat → Int64} (ht : ∀ q, q < e.2.1 → t q = eI (e.1 q)) (C : CRd e p i) (hlo : B31 lo) (hhi : B31 hi) (hE : r = numS e p lo hi k) {Q : Int32 → F32 → (Nat → Int64) → Prop} (ok : ∀ i' j', r = k → oK e p = 2 → lo ≤ oV e p → oV e p ≤ hi → i' 6 = eI (oV e p) → CLd e p i' j' → Q 1 i' j') (bad : ∀ i' j', CFl r i' → Q 0 i' j') : w_Reader_nextNumber i j t (eI lo) (eI hi) Q := by
  unfold w_Reader_nextNumber
  refine C_adv X ht C (fun i' j' L => ?_)
  exact C_isNumber X L hlo hhi hE (fun h1 h2 h3 h4 h5 => ok i' j' h1 h2 h3 h4 h5 L) (fun i2 F => bad i2 j' F)
abbrev QCR := Int32 → F32 → F32 → (Nat → Int64) → F32 → F32 → (Nat → Int64) → (Nat → Int64) → F32 → F32 → F32 → F32 → Prop
theorem slU_k {S : LRS} (L : LSk S) {g : Int} {n : Nat} (hg : -9 ≤ g ∧ g ≤ 9) (hn : S.h 0 + n ≤ 400) (hsl : S.sl < 20) : LSk (slH S.h g n, S.nw, S.nl, S.sl + 1, S.on) := by
  refine ⟨slH_ok L.o hg hn, by show S.sl + 1 ≤ 20; omega, fun k hk => L.n1 k ?_, fun k hk => L.n2 k ?_, fun h5 => (slH_n (by omega) (by omega)).trans (L.f5 h5)⟩
  · have : slH S.h g n 1 = S.h 1 := slH_n (by omega) (by omega)
    rw [← this]; exact hk
  · have : slH S.h g n 3 = S.h 3 := slH_n (by omega) (by omega)
    rw [← this]; exact hk
theorem C_slB {e : TXX} {p : Nat} {S : LRS} {r : RS} {k : Nat → LRS → RS} {sg : Int} (X : TK e) {it i t il gl hl ol d fl : F32} {j hN kN : Nat → Int64} (ht : ∀ q, q < e.2.1 → t q = eI (e.1 q)) (R : CLd e p i j) (L : LSk S) (hsl : S.sl < 20) (h20 : it 4 = eI ((S.sl + 1 : Nat) : Int)) (M : CR S (upd it 4 (eI S.sl)) il gl hl ol d fl hN kN) (hsg : sg = 1 ∨ sg = -1) (hE : r = slB e p sg S k) {z : Int32} (hz : z = if sg = 1 then 0 else 1) {Q : QCR} (ok : ∀ it' i' j' il' gl' hN' kN' hl' ol' d' fl' p' S', r = semS e p' (k (oX e p') S') → LSk S' → CRd e p' i' → CR S' it' il' gl' hl' ol' d' fl' hN' kN' → Q 1 it' i' j' il' gl' hN' kN' hl' ol' d' fl') (bad : ∀ it' i' j' il' gl' hN' kN' hl' ol' d' fl', CFl r i' → Q 0 it' i' j' il' gl' hN' kN' hl' ol' d' fl') : j_LineReader_readSlope_63 it i j t il gl z (fun z it' i' j' il' gl' => Q z it' i' j' il' gl' hN kN hl ol d fl) := by
  have O := L.o
  have hu := O.u
  unfold slB at hE
  unfold j_LineReader_readSlope_63
  refine C_isNumber (lo := 0) (hi := 9) X R (by (first | exact B31_s (by omega) (by omega) | exact B31_of _ | (constructor <;> omega))) (by (first | exact B31_s (by omega) (by omega) | exact B31_of _ | (constructor <;> omega))) hE (fun hE2 o2 l2 g2 h6 => ?_) (fun i2 F => by (first | refine z0T ?_ | refine z0N ?_); exact bad _ _ _ _ _ _ _ _ _ _ _ F)
  (first | refine z1T ?_ | refine z1N ?_)
  have main : j_LineReader_readSlope_100 it i j t il gl (eI (sg * oV e p)) (fun z it' i' j' il' gl' => Q z it' i' j' il' gl' hN kN hl ol d fl) := by
    unfold j_LineReader_readSlope_100
    refine C_nextNum2 (lo := 1) (hi := 99) X ht (R.r (by omega) (by omega)) (by (first | exact B31_s (by omega) (by omega) | exact B31_of _ | (constructor <;> omega))) (by (first | exact B31_s (by omega) (by omega) | exact B31_of _ | (constructor <;> omega))) hE2 (fun i3 j3 hE3 o3 l3 g3 h63 R3 => ?_) (fun i3 j3 F => by (first | refine z0T ?_ | refine z0N ?_); exact bad _ _ _ _ _ _ _ _ _ _ _ F)
    (first | refine z1T ?_ | refine z1N ?_)
    rw [M.I.u, h63, eI_add]
    refine q_le (b := 400) (by (first | exact B31_s (by omega) (by omega) | exact B31_of _ | (constructor <;> omega))) (by (first | exact B31_s (by omega) (by omega) | exact B31_of _ | (constructor <;> omega))) (fun h400 => ?_) (fun h400 => ?_)
    · rw [if_neg (by omega)] at hE3
      generalize hnn : (oV e (oX e p)).toNat = n at *
      have hvn : oV e (oX e p) = (n : Int) := by omega
      have R3r : CRd e (oX e (oX e p)) i3 := R3.r (by omega) (by omega)
      rw [hvn] at h63
      rw [hvn]
      refine lg_LineReader_readSlope_148 (G := Nat) (fun q x gl' => q ≤ n ∧ x = eI ((q : Nat) : Int) ∧ (∀ jj, jj < (S.h 0).toNat → gl' jj = gl jj) ∧ ∀ jj, (S.h 0).toNat ≤ jj → jj < (S.h 0).toNat + q → gl' jj = eI (sg * oV e p)) (fun q => n - q) ?_ 0 ⟨by omega, rfl, fun _ _ => rfl, fun jj a b => by omega⟩
      rintro kr q x gl' ⟨hq, rfl, hg0, hg1⟩ hst
      unfold b_LineReader_readSlope_148
      rw [h63, M.I.u]
      refine q_le (by (first | exact B31_s (by omega) (by omega) | exact B31_of _ | (constructor <;> omega))) (by (first | exact B31_s (by omega) (by omega) | exact B31_of _ | (constructor <;> omega))) (fun hle => ?_) (fun hlt => ?_)
      · have eq : q = n := by omega
        subst eq
        have f : ∀ q', 1 ≤ q' → q' < 11 ∨ 411 ≤ q' → slH S.h (sg * oV e p) q q' = S.h q' := fun q' h1 h2 => slH_n (by omega) (by omega)
        refine ok _ _ _ _ _ _ _ _ _ _ _ _ _ hE3 (slU_k L (by rcases hsg with rfl | rfl <;> omega) (by omega) hsl) R3r ⟨h20, fun kk hk => ?_, fun kk hk => M.n1 kk ?_, fun kk hk => M.n2 kk ?_, ⟨?_, ?_, ?_, ?_, ?_, ?_, ?_, ?_, ?_, ?_, ?_⟩, fun jj hj => ?_, M.H.cg O (f 1 (by omega) (by omega)) (fun q' a b => f q' (by omega) (by omega)), M.O.cg O (f 2 (by omega) (by omega)) (fun q' a b => f q' (by omega) (by omega)), M.D.cg O (f 3 (by omega) (by omega)) (fun q' a b => f q' (by omega) (by omega)), M.F.cg O (f 10 (by omega) (by omega)) (fun q' a b => f q' (by omega) (by omega))⟩
        · have := M.on kk hk
          rw [upd_n (by omega)] at this; exact this
        · rw [← f 1 (by omega) (by omega)]; exact hk
        · rw [← f 3 (by omega) (by omega)]; exact hk
        · rw [upd_s]; show _ = eI (slH S.h (sg * oV e p) q 0); rw [slH_0]
        · rw [upd_n (by omega), M.I.hc]; show _ = eI (slH S.h (sg * oV e p) q 1); rw [f _ (by omega) (by omega)]
        · rw [upd_n (by omega), M.I.lc]; show _ = eI (slH S.h (sg * oV e p) q 2); rw [f _ (by omega) (by omega)]
        · rw [upd_n (by omega), M.I.kc]; show _ = eI (slH S.h (sg * oV e p) q 3); rw [f _ (by omega) (by omega)]
        · rw [upd_n (by omega), M.I.fc]; show _ = eI (slH S.h (sg * oV e p) q 10); rw [f _ (by omega) (by omega)]
        · rw [upd_n (by omega), M.I.pull]; show _ = eI (slH S.h (sg * oV e p) q 4); rw [f _ (by omega) (by omega)]
        · rw [upd_n (by omega), M.I.eng]; show _ = eI (slH S.h (sg * oV e p) q 5); rw [f _ (by omega) (by omega)]
        · rw [upd_n (by omega), M.I.rub]; show _ = eI (slH S.h (sg * oV e p) q 6); rw [f _ (by omega) (by omega)]
        · rw [upd_n (by omega), M.I.sand]; show _ = eI (slH S.h (sg * oV e p) q 7); rw [f _ (by omega) (by omega)]
        · rw [upd_n (by omega), M.I.wear]; show _ = eI (slH S.h (sg * oV e p) q 8); rw [f _ (by omega) (by omega)]
        · rw [upd_n (by omega), M.I.walk]; show _ = eI (slH S.h (sg * oV e p) q 9); rw [f _ (by omega) (by omega)]
        · have hj' : (jj : Int) < slH S.h (sg * oV e p) q 0 := hj
          rw [slH_0] at hj'
          show gl' jj = eI (slH S.h (sg * oV e p) q (11 + jj))
          by_cases hlo : jj < (S.h 0).toNat
          · rw [slH_n (by omega) (by omega), hg0 jj hlo]; exact M.G jj (by omega)
          · rw [slH_i (by omega) (by omega)]; exact hg1 jj (by omega) (by omega)
      · have e1 : eI (S.h 0) + eI (q : Int) = eI (((S.h 0).toNat + q : Nat) : Int) := by (try simp only [eI_lit, eI_neg, eI_add, eI_sub, eI_mul, eF_ap, upd_eF]); congr 1; omega
        rw [e1]
        refine And.intro (eI_in (by omega) (by omega) (by omega)) ?_; (try simp (disch := omega) only [eI_cl, Int.toNat_natCast])
        refine hst (q + 1) _ _ (by omega) ⟨by omega, by (try simp only [eI_lit, eI_neg, eI_add, eI_sub, eI_mul, eF_ap, upd_eF]); congr 1, fun jj hj => by rw [upd_n (by omega)]; exact hg0 jj hj, fun jj a b => ?_⟩
        by_cases ej : jj = (S.h 0).toNat + q
        · subst ej; rw [upd_s]
        · rw [upd_n (by omega)]; exact hg1 jj a (by omega)
    · rw [if_pos (by omega)] at hE3
      exact C_failHere X R3 (by omega) (by omega) hE3 rfl (fun i' F => bad _ _ _ _ _ _ _ _ _ _ _ F)
  rw [h6]
  rcases hsg with rfl | rfl
  · rw [if_pos rfl] at hz
    subst hz
    rw [Int.one_mul] at main
    exact ⟨fun _ => main, fun h => absurd rfl h⟩
  · rw [if_neg (by omega)] at hz
    subst hz
    refine ⟨fun h => absurd h one_ne, fun _ => ?_⟩
    have e1 : -eI (oV e p) = eI (-1 * oV e p) := by (try simp only [eI_lit, eI_neg, eI_add, eI_sub, eI_mul, eF_ap, upd_eF]); congr 1; omega
    rw [e1]; exact main
theorem CR.u4 {S : LRS} {it il gl hl ol d fl : F32} {hN kN : Nat → Int64} (M : CR S it il gl hl ol d fl hN kN) {x : Int32} : CR S (upd (upd it 4 x) 4 (eI S.sl)) il gl hl ol d fl hN kN :=
  ⟨upd_s, fun k hk => by rw [upd_n (by omega), upd_n (by omega)]; exact M.on k hk, M.n1, M.n2, M.I, M.G, M.H, M.O, M.D, M.F⟩
theorem C_slope {e : TXX} {p : Nat} {S : LRS} {r : RS} {k : Nat → LRS → RS} (X : TK e) {it i t il gl hl ol d fl : F32} {j hN kN : Nat → Int64} (ht : ∀ q, q < e.2.1 → t q = eI (e.1 q)) (R : CLd e p i j) (h1 : oK e p = 1) (L : LSk S) (M : CR S it il gl hl ol d fl hN kN) (hE : r = slS e p S k) {Q : QCR} (ok : ∀ it' i' j' il' gl' hN' kN' hl' ol' d' fl' p' S', r = semS e p' (k (oX e p') S') → LSk S' → CRd e p' i' → CR S' it' il' gl' hl' ol' d' fl' hN' kN' → Q 1 it' i' j' il' gl' hN' kN' hl' ol' d' fl') (bad : ∀ it' i' j' il' gl' hN' kN' hl' ol' d' fl', CFl r i' → Q 0 it' i' j' il' gl' hN' kN' hl' ol' d' fl') : w_LineReader_readSlope it i j t il gl (fun z it' i' j' il' gl' => Q z it' i' j' il' gl' hN kN hl ol d fl) := by
  have hsl := L.sl
  unfold slS at hE
  unfold w_LineReader_readSlope
  rw [M.sl]
  refine q_lt (b := 20) (by (first | exact B31_s (by omega) (by omega) | exact B31_of _ | (constructor <;> omega))) (by (first | exact B31_s (by omega) (by omega) | exact B31_of _ | (constructor <;> omega))) (fun h20 => ?_) (fun h20 => ?_)
  · rw [if_neg (by omega)] at hE
    have e20 : eI (S.sl : Int) + 1 = eI ((S.sl + 1 : Nat) : Int) := by (try simp only [eI_lit, eI_neg, eI_add, eI_sub, eI_mul, eF_ap, upd_eF]); congr 1
    rw [e20]
    refine C_adv X ht (R.r (by omega) (by omega)) (fun i1 j1 R1 => ?_)
    have hs := cso_1 (oK_le e (oX e p))
    rw [R1.s]
    refine q_ne (b := 4) (by (first | exact B31_s (by omega) (by omega) | exact B31_of _ | (constructor <;> omega))) (by (first | exact B31_s (by omega) (by omega) | exact B31_of _ | (constructor <;> omega))) (fun h5 => ?_) (fun h5 => ?_)
    · rw [if_neg (fun h => h5 (hs.2.2.2.2.1.mpr h))] at hE
      unfold j_LineReader_readSlope_51
      (first | refine z0T ?_ | refine z0N ?_)
      exact C_slB (sg := 1) X ht R1 L (by omega) upd_s M.u4 (Or.inl rfl) hE rfl ok bad
    · have h5' := hs.2.2.2.2.1.mp h5
      rw [if_pos h5'] at hE
      unfold j_LineReader_readSlope_51
      (first | refine z1T ?_ | refine z1N ?_)
      refine C_adv X ht (R1.r (by omega) (by omega)) (fun i2 j2 R2 => ?_)
      exact C_slB (sg := -1) X ht R2 L (by omega) upd_s M.u4 (Or.inr rfl) hE rfl ok bad
  · rw [if_pos (by omega)] at hE
    exact C_failHere X R (by omega) (by omega) hE rfl (fun i' F => bad _ _ _ _ _ _ _ _ _ _ _ F)
