/-! line: what is told once -/
noncomputable def onS (e : TXX) (p q : Nat) (S : LRS) (k : RS) : RS := if S.on q = true then flt 3 (oP e p) else k
def onU (S : LRS) (q : Nat) : LRS := (S.h, S.nw, S.nl, S.sl, fun j => S.on j || decide (j = q))
theorem onU_k {S : LRS} (L : LSk S) {q : Nat} : LSk (onU S q) := by
  refine ⟨L.o, L.sl, L.n1, L.n2, fun h5 => L.f5 ?_⟩
  have h : (S.on 5 || decide (5 = q)) = false := h5
  cases hs : S.on 5 with
  | false => rfl
  | true => rw [hs] at h; simp at h
theorem M_isOnce {e : TXX} {p q : Nat} {S : LRS} {r k : RS} (X : TK e) {i t hA : F32} {j nm : Nat → Int64} (ht : ∀ q, q < e.2.1 → t q &&& 255 = eI (e.1 q)) (R : RLd e p i j) (h1 : oK e p = 1) (L : LSk S) (M : MR S i hA nm) (hq : q < 6) {x : Int32} (hx : x = eI ((q : Nat) : Int)) (hE : r = onS e p q S k) {Q : Int32 → F32 → (Nat → Int64) → Prop} (ok : ∀ i' j', r = k → S.on q = false → LSk (onU S q) → RLd e (oX e p) i' j' → MR (onU S q) i' hA nm → KLr i i' → Q 1 i' j') (bad : ∀ i' j', RFl r i' → KLr i i' → Q 0 i' j') : w_LongTrainModel_isOnce i j t x Q := by
  have hb := has_bit (c := i 21) (k := q) (by omega)
  have ho := M.on q hq
  unfold onS at hE
  unfold w_LongTrainModel_isOnce w_LongTrainModel_has
  rw [hx]
  refine ⟨fun h => ?_, fun h => ?_⟩
  · have hf : S.on q = false := by
      cases hs : S.on q with
      | false => rfl
      | true => exact absurd (hb.mpr (ho.trans hs)) h
    rw [if_neg (by rw [hf]; decide)] at hE
    (first | refine z0T ?_ | refine z0N ?_)
    refine M_nxt X ht ((R.r (by omega) (by omega)).u (by omega) (by omega) (by omega) (by omega)) (fun i1 j1 R1 K1 _ => ?_)
    refine ok i1 j1 hE hf (onU_k L) R1 ⟨M.h, ?_, fun kk hk => ?_, M.n1, M.n2⟩ ((KLr.u (by omega) (by omega) (by omega) (by omega) (by omega)).tr K1.l)
    · rw [K1.at_ (by omega), upd_n (by omega)]; exact M.sl
    · rw [K1.at_ (q := 21) (by omega), upd_s, or_bit (by omega) (by omega), M.on kk hk]; rfl
  · have hf : S.on q = true := ho.symm.trans (hb.mp h)
    rw [if_pos hf] at hE
    (first | refine z1T ?_ | refine z1N ?_)
    exact M_bad X R (by omega) (by omega) hE rfl (fun i' F K => bad _ _ F K.l)
theorem C_tellOnce {e : TXX} {p q : Nat} {S : LRS} {r k : RS} (X : TK e) {it i il gl hl ol d fl : F32} {j hN kN : Nat → Int64} (R : CLd e p i j) (L : LSk S) (M : CR S it il gl hl ol d fl hN kN) (hq : q < 6) {x : Int32} (hx : x = eI ((q + 5 : Nat) : Int)) (hE : r = onS e p q S k) {Q : Int32 → F32 → F32 → Prop} (ok : ∀ it', r = k → S.on q = false → LSk (onU S q) → CR (onU S q) it' il gl hl ol d fl hN kN → Q 1 it' i) (bad : ∀ it' i', CFl r i' → Q 0 it' i') : w_LineReader_tellOnce it i x Q := by
  have hb := no_bit (c := it 5) (k := q + 5) (by omega)
  have ho := M.on q hq
  unfold onS at hE
  unfold w_LineReader_tellOnce
  rw [hx]
  refine ⟨fun h => ?_, fun h => ?_⟩
  · have hf : S.on q = false := ho.symm.trans (hb.mp h)
    rw [if_neg (by rw [hf]; decide)] at hE
    refine ok _ hE hf (onU_k L) ⟨?_, fun kk hk => ?_, M.n1, M.n2, M.I, M.G, M.H, M.O, M.D, M.F⟩
    · rw [upd_n (by omega)]; exact M.sl
    · rw [upd_s, or_bit (by omega) (by omega), M.on kk hk]
      show (S.on kk || decide (kk + 5 = q + 5)) = (S.on kk || decide (kk = q))
      congr 1
      simp
  · have hf : S.on q = true := by
      cases hs : S.on q with
      | false => exact absurd (hb.mpr (ho.trans hs)) h
      | true => rfl
    rw [if_pos hf] at hE
    exact C_failHere X R (by omega) (by omega) hE rfl (fun i' F => bad _ _ F)
/-! one number -/
theorem set_ok {h h' : Nat → Int} (O : LOk h) (f : ∀ q, q < 4 ∨ 10 ≤ q → h' q = h q) (b4 : 1 ≤ h' 4 ∧ h' 4 ≤ 999) (b5 : 1 ≤ h' 5 ∧ h' 5 ≤ 99) (b6 : 0 ≤ h' 6 ∧ h' 6 ≤ 9) (b7 : 0 ≤ h' 7 ∧ h' 7 ≤ 99) (b8 : 1 ≤ h' 8 ∧ h' 8 ≤ 99) (b9 : 1 ≤ h' 9 ∧ h' 9 ≤ 9) : LOk h' := by
  have e0 := f 0 (by omega)
  have e1 := f 1 (by omega)
  have e2 := f 2 (by omega)
  have e3 := f 3 (by omega)
  have e10 := f 10 (by omega)
  have hAT : ∀ k : Nat, AT h' k = AT h k := fun k => f _ (by omega)
  have hHL : ∀ k : Nat, HL h' k = HL h k := fun k => f _ (by omega)
  have hAD : ∀ k : Nat, AD h' k = AD h k := fun k => by unfold AD; rw [f _ (by omega)]
  refine ⟨by rw [e0]; exact O.u, by rw [e1]; exact O.hc, by rw [e2]; exact O.lc, by rw [e3]; exact O.kc, b4, b5, b6, b7, b8, b9, by rw [e10]; exact O.fc, fun j hj => by rw [f _ (by omega)]; exact O.gr j hj, fun k hk => ?_, fun k hk => ?_, fun k hk => ?_, fun j k hjk hk => ?_, fun k hk => ?_, fun k h0 hk => ?_, fun k hk => ?_⟩
  · rw [e1] at hk; rw [hAT, e0]; exact O.at_ k hk
  · rw [e1] at hk; rw [hHL]; exact O.hl k hk
  · rw [e1] at hk; rw [hAD, e3]; exact O.ad k hk
  · rw [e1] at hk; rw [hAT, hAT]; exact O.asc j k hjk hk
  · rw [e2] at hk; rw [e0, f (441 + 2 * k) (by omega), f (441 + 2 * k + 1) (by omega)]; exact O.lp k hk
  · rw [e3] at hk
    have := O.kd k h0 hk
    unfold LG WT ST at *
    rw [f _ (by omega), f _ (by omega), f _ (by omega)]; exact this
  · rw [e10] at hk; rw [f _ (by omega), e3]; exact O.tr k hk
def bnV (c : Nat) (v : Int) : Prop := (c = 4 ∧ 1 ≤ v ∧ v ≤ 999) ∨ (c = 5 ∧ 1 ≤ v ∧ v ≤ 99) ∨ (c = 6 ∧ 0 ≤ v ∧ v ≤ 9) ∨ (c = 7 ∧ 0 ≤ v ∧ v ≤ 99) ∨ (c = 8 ∧ 1 ≤ v ∧ v ≤ 99) ∨ (c = 9 ∧ 1 ≤ v ∧ v ≤ 9)
theorem bnV.c {c : Nat} {v : Int} (h : bnV c v) : 4 ≤ c ∧ c ≤ 9 := by unfold bnV at h; omega
theorem seH_ok {h : Nat → Int} (O : LOk h) {c : Nat} {v : Int} (b : bnV c v) : LOk (updI h c v) := by
  have hc := b.c
  refine set_ok O (fun q hq => updI_n _ (by omega)) ?_ ?_ ?_ ?_ ?_ ?_
  · by_cases e : c = 4
    · subst e; rw [updI_s]; unfold bnV at b; omega
    · rw [updI_n _ (by omega)]; exact O.pull
  · by_cases e : c = 5
    · subst e; rw [updI_s]; unfold bnV at b; omega
    · rw [updI_n _ (by omega)]; exact O.eng
  · by_cases e : c = 6
    · subst e; rw [updI_s]; unfold bnV at b; omega
    · rw [updI_n _ (by omega)]; exact O.rub
  · by_cases e : c = 7
    · subst e; rw [updI_s]; unfold bnV at b; omega
    · rw [updI_n _ (by omega)]; exact O.sand
  · by_cases e : c = 8
    · subst e; rw [updI_s]; unfold bnV at b; omega
    · rw [updI_n _ (by omega)]; exact O.wear
  · by_cases e : c = 9
    · subst e; rw [updI_s]; unfold bnV at b; omega
    · rw [updI_n _ (by omega)]; exact O.walk
def seU (S : LRS) (c : Nat) (v : Int) : LRS := (updI S.h c v, S.nw, S.nl, S.sl, S.on)
theorem seU_k {S : LRS} (L : LSk S) {c : Nat} {v : Int} (b : bnV c v) : LSk (seU S c v) := by
  have hc := b.c
  refine ⟨seH_ok L.o b, L.sl, fun k hk => L.n1 k ?_, fun k hk => L.n2 k ?_, fun h5 => (updI_n _ (by omega)).trans (L.f5 h5)⟩
  · have hk' : (k : Int) < updI S.h c v 1 := hk
    rw [updI_n _ (by omega)] at hk'; exact hk'
  · have hk' : (k : Int) < updI S.h c v 3 := hk
    rw [updI_n _ (by omega)] at hk'; exact hk'
theorem seU_M {S : LRS} {i hA : F32} {nm : Nat → Int64} (M : MR S i hA nm) {c : Nat} {v : Int} (hc : 4 ≤ c ∧ c ≤ 9) : MR (seU S c v) i (upd hA c (eI v)) nm := by
  refine ⟨by rw [M.h, upd_eF]; rfl, M.sl, M.on, fun k hk => M.n1 k ?_, fun k hk => M.n2 k ?_⟩
  · have hk' : (k : Int) < updI S.h c v 1 := hk
    rw [updI_n _ (by omega)] at hk'; exact hk'
  · have hk' : (k : Int) < updI S.h c v 3 := hk
    rw [updI_n _ (by omega)] at hk'; exact hk'
theorem seU_C {S : LRS} {it il gl hl ol d fl : F32} {hN kN : Nat → Int64} (O : LOk S.h) (M : CR S it il gl hl ol d fl hN kN) {c : Nat} {v : Int} (hc : 4 ≤ c ∧ c ≤ 9) : CR (seU S c v) it (upd il (c + 6) (eI v)) gl hl ol d fl hN kN := by
  have f : ∀ q, q < 4 ∨ 10 ≤ q → updI S.h c v q = S.h q := fun q hq => updI_n _ (by omega)
  refine ⟨M.sl, M.on, fun k hk => M.n1 k ?_, fun k hk => M.n2 k ?_, M.I.cg (n := c) (c := c + 6) (by omega) (updI_s _ _ _) (fun q hq hn => updI_n _ hn) rfl, M.G.cg O (f 0 (by omega)) (fun q a b => f q (by omega)), M.H.cg O (f 1 (by omega)) (fun q a b => f q (by omega)), M.O.cg O (f 2 (by omega)) (fun q a b => f q (by omega)), M.D.cg O (f 3 (by omega)) (fun q a b => f q (by omega)), M.F.cg O (f 10 (by omega)) (fun q a b => f q (by omega))⟩
  · have hk' : (k : Int) < updI S.h c v 1 := hk
    rw [updI_n _ (by omega)] at hk'; exact hk'
  · have hk' : (k : Int) < updI S.h c v 3 := hk
    rw [updI_n _ (by omega)] at hk'; exact hk'
theorem MR.k2 {S : LRS} {i i' hA : F32} {nm : Nat → Int64} (M : MR S i hA nm) (h : KN i i') : MR S i' hA nm := M.k h
/-! rub, sand, wear, walk -/
noncomputable def kpB (e : TXX) (p c : Nat) (lo hi : Int) (S : LRS) (k : Nat → LRS → RS) : RS :=
  numS e p lo hi (semS e (oX e p) (k (oX e (oX e p)) (seU S c (oV e p))))
theorem M_keeps {e : TXX} {p c : Nat} {lo hi : Int} {S : LRS} {r : RS} {k : Nat → LRS → RS} (X : TK e) {i t hA : F32} {j nm : Nat → Int64} (ht : ∀ q, q < e.2.1 → t q &&& 255 = eI (e.1 q)) (R : RLd e p i j) (L : LSk S) (M : MR S i hA nm) (hc : 4 ≤ c ∧ c ≤ 9) (hb : ∀ v, lo ≤ v → v ≤ hi → bnV c v) (hlo : B31 lo) (hhi : B31 hi) (hE : r = kpB e p c lo hi S k) {x y z : Int32} (hx : x = eI ((c : Nat) : Int)) (hy : y = eI lo) (hz : z = eI hi) {Q : Int32 → F32 → (Nat → Int64) → F32 → Prop} (ok : ∀ i' j' p' S' h', r = semS e p' (k (oX e p') S') → LSk S' → RLd e p' i' j' → MR S' i' h' nm → KLr i i' → Q 1 i' j' h') (bad : ∀ i' j' h', RFl r i' → KLr i i' → Q 0 i' j' h') : w_LongTrainModel_keeps i j t hA x y z Q := by
  unfold kpB at hE
  unfold w_LongTrainModel_keeps
  rw [hx, hy, hz]
  refine M_takes X ht R hlo hhi hE (fun i2 j2 hE2 o2 l2 g2 h18 R2 K2 => ?_) (fun i2 j2 F K2 => by (first | refine z0T ?_ | refine z0N ?_); exact bad _ _ _ F K2.l)
  (first | refine z1T ?_ | refine z1N ?_)
  refine And.intro (eI_in (by omega) (by omega) (by omega)) ?_; (try simp (disch := omega) only [eI_cl, Int.toNat_natCast])
  rw [h18]
  exact ok _ _ _ _ _ hE2 (seU_k L (hb _ l2 g2)) R2 (seU_M (M.k K2) hc) K2.l
theorem C_keeps {e : TXX} {p c : Nat} {lo hi : Int} {S : LRS} {r : RS} {k : Nat → LRS → RS} (X : TK e) {it i t il gl hl ol d fl : F32} {j hN kN : Nat → Int64} (ht : ∀ q, q < e.2.1 → t q = eI (e.1 q)) (R : CRd e p i) (L : LSk S) (M : CR S it il gl hl ol d fl hN kN) (hc : c = 6 ∧ lo = 0 ∧ hi = 9 ∨ c = 7 ∧ lo = 0 ∧ hi = 99 ∨ c = 8 ∧ lo = 1 ∧ hi = 99 ∨ c = 9 ∧ lo = 1 ∧ hi = 9) (hE : r = kpB e p c lo hi S k) {x : Int32} (hx : x = eI ((c : Nat) : Int)) {Q : Int32 → F32 → (Nat → Int64) → F32 → Prop} (ok : ∀ i' j' il' p' S', r = semS e p' (k (oX e p') S') → LSk S' → CRd e p' i' → CR S' it il' gl hl ol d fl hN kN → Q 1 i' j' il') (bad : ∀ i' j' il', CFl r i' → Q 0 i' j' il') : w_LineReader_readNumber i j t il x Q := by
  have hb : ∀ v, lo ≤ v → v ≤ hi → bnV c v := fun v a b => by unfold bnV; omega
  unfold kpB at hE
  have main : j_LineReader_readNumber_37 i j t il (eI ((c : Nat) : Int)) (eI lo) (eI hi) Q := by
    unfold j_LineReader_readNumber_37
    refine C_nextNumber X ht R (by constructor <;> omega) (by constructor <;> omega) hE (fun i2 j2 hE2 o2 l2 g2 h6 R2 => ?_) (fun i2 j2 F => by (first | refine z0T ?_ | refine z0N ?_); exact bad _ _ _ F)
    (first | refine z1T ?_ | refine z1N ?_)
    rw [h6]
    have fin := ok i2 j2 _ _ _ hE2 (seU_k L (hb _ l2 g2)) R2 (seU_C L.o M (by omega))
    rcases hc with ⟨rfl, _⟩ | ⟨rfl, _⟩ | ⟨rfl, _⟩ | ⟨rfl, _⟩
    · exact ⟨fun _ => fin, fun h => absurd rfl h⟩
    · exact ⟨fun h => absurd h (by decide), fun _ => ⟨fun _ => fin, fun h => absurd rfl h⟩⟩
    · exact ⟨fun h => absurd h (by decide), fun _ => ⟨fun h => absurd h (by decide), fun _ => ⟨fun _ => fin, fun h => absurd rfl h⟩⟩⟩
    · exact ⟨fun h => absurd h (by decide), fun _ => ⟨fun h => absurd h (by decide), fun _ => ⟨fun h => absurd h (by decide), fun _ => fin⟩⟩⟩
  unfold w_LineReader_readNumber j_LineReader_readNumber_12 j_LineReader_readNumber_17 j_LineReader_readNumber_30
  rw [hx]
  rcases hc with ⟨rfl, rfl, rfl⟩ | ⟨rfl, rfl, rfl⟩ | ⟨rfl, rfl, rfl⟩ | ⟨rfl, rfl, rfl⟩
  · exact ⟨fun _ => ⟨fun _ => main, fun h => absurd rfl h⟩, fun h => absurd rfl h⟩
  · exact ⟨fun h => absurd h (by decide), fun _ => ⟨fun h => absurd rfl h, fun _ => ⟨fun h => absurd h (by decide), fun _ => ⟨fun _ => main, fun h => absurd h (by decide)⟩⟩⟩⟩
  · exact ⟨fun h => absurd h (by decide), fun _ => ⟨fun _ => ⟨fun h => absurd h (by decide), fun _ => ⟨fun _ => main, fun h => absurd h (by decide)⟩⟩, fun h => absurd h (by decide)⟩⟩
  · exact ⟨fun h => absurd h (by decide), fun _ => ⟨fun _ => ⟨fun h => absurd h (by decide), fun _ => ⟨fun h => absurd rfl h, fun _ => main⟩⟩, fun h => absurd h (by decide)⟩⟩
/-! engine -/
noncomputable def enB (e : TXX) (p : Nat) (S : LRS) (k : Nat → LRS → RS) : RS :=
  numS e p 1 999 (numS e (oX e p) 1 99 (semS e (oX e (oX e p)) (k (oX e (oX e (oX e p))) (seU (seU S 4 (oV e p)) 5 (oV e (oX e p))))))
theorem C_engine {e : TXX} {p : Nat} {S : LRS} {r : RS} {k : Nat → LRS → RS} (X : TK e) {it i t il gl hl ol d fl : F32} {j hN kN : Nat → Int64} (ht : ∀ q, q < e.2.1 → t q = eI (e.1 q)) (R : CRd e p i) (L : LSk S) (M : CR S it il gl hl ol d fl hN kN) (hE : r = enB e p S k) {Q : Int32 → F32 → (Nat → Int64) → F32 → Prop} (ok : ∀ i' j' il' p' S', r = semS e p' (k (oX e p') S') → LSk S' → CRd e p' i' → CR S' it il' gl hl ol d fl hN kN → Q 1 i' j' il') (bad : ∀ i' j' il', CFl r i' → Q 0 i' j' il') : w_LineReader_readEngine i j t il Q := by
  unfold enB at hE
  unfold w_LineReader_readEngine
  refine C_nextNumber (lo := 1) (hi := 999) X ht R (by (first | exact B31_s (by omega) (by omega) | exact B31_of _ | (constructor <;> omega))) (by (first | exact B31_s (by omega) (by omega) | exact B31_of _ | (constructor <;> omega))) hE (fun i2 j2 hE2 o2 l2 g2 h6 R2 => ?_) (fun i2 j2 F => by (first | refine z0T ?_ | refine z0N ?_); exact bad _ _ _ F)
  (first | refine z1T ?_ | refine z1N ?_)
  refine C_nextNumber (lo := 1) (hi := 99) X ht R2 (by (first | exact B31_s (by omega) (by omega) | exact B31_of _ | (constructor <;> omega))) (by (first | exact B31_s (by omega) (by omega) | exact B31_of _ | (constructor <;> omega))) hE2 (fun i3 j3 hE3 o3 l3 g3 h63 R3 => ?_) (fun i3 j3 F => by (first | refine z0T ?_ | refine z0N ?_); exact bad _ _ _ F)
  (first | refine z1T ?_ | refine z1N ?_)
  rw [h6, h63]
  have b1 : bnV 4 (oV e p) := by unfold bnV; omega
  have b2 : bnV 5 (oV e (oX e p)) := by unfold bnV; omega
  have L1 := seU_k L b1
  exact ok _ _ _ _ _ hE3 (seU_k L1 b2) R3 (seU_C L1.o (seU_C L.o M (by omega)) (by omega))
