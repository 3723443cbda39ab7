/-! copies: judge(0), image, restore -/
theorem cpy_lt {f g : F32} {n j : Nat} (h : j < n) : va_cpy f g 0 0 n j = f j := by
  rw [pk_cpy_in (by omega) (by omega)]
  congr 1; omega
theorem R_copy {σ X head nh i2 K2 L2 W2 S2 E2 P2 H2} (r : RowR σ X head nh i2 K2 L2 W2 S2 E2 P2 H2) (hn : X.n ≤ 20) {i K L W S E P H : F32} {Q : QR} (hq : ∀ i' K' L' W' S' E' P' H', RowR σ X head nh i' K' L' W' S' E' P' H' → Q i' K' L' W' S' E' P' H') : w_Row_copyFrom i i2 K2 K L2 L W2 W S2 S E2 E P2 P H2 H Q := by
  unfold w_Row_copyFrom
  refine hq _ _ _ _ _ _ _ _ ⟨?_, ?_, ?_, ?_, ?_, ?_, ?_, ?_, ?_, ?_, ?_⟩
  · rw [upd_n (by omega), upd_n (by omega), upd_n (by omega), upd_s]; exact r.sz
  · rw [upd_n (by omega), upd_n (by omega), upd_s]; exact r.tot
  · rw [upd_n (by omega), upd_s]; exact r.hd
  · rw [upd_s]; exact r.nx
  · intro j hj; rw [cpy_lt (by omega)]; exact r.k j hj
  · intro j hj; rw [cpy_lt (by omega)]; exact r.l j hj
  · intro j hj; rw [cpy_lt (by omega)]; exact r.w j hj
  · intro j hj; rw [cpy_lt (by omega)]; exact r.s j hj
  · intro j hj; rw [cpy_lt (by omega)]; exact r.e j hj
  · intro j hj; rw [cpy_lt (by omega)]; exact r.p j hj
  · intro j hj; rw [cpy_lt (by omega)]; exact r.h j hj
theorem C_copyT {τ : Nat → Int} (O : LOk τ) {T : TS} (K : TOk τ T) {it2 i2 K2 L2 W2 S2 E2 P2 H2 ih2 hst2 hsz2 hun2 hk2 : F32} (C : CT τ T it2 i2 K2 L2 W2 S2 E2 P2 H2 ih2 hst2 hsz2 hun2 hk2) {it i kk L W S E P H ih hst hsz hun hk : F32} {Q : F32 → F32 → F32 → F32 → F32 → F32 → F32 → F32 → F32 → F32 → F32 → F32 → F32 → F32 → Prop} (hq : ∀ it' i' kk' L' W' S' E' P' H' ih' hst' hsz' hun' hk', CT τ T it' i' kk' L' W' S' E' P' H' ih' hst' hsz' hun' hk' → Q it' i' kk' L' W' S' E' P' H' ih' hk' hst' hsz' hun') : w_Train_copyFrom it it2 i i2 K2 kk L2 L W2 W S2 S E2 E P2 P H2 H ih ih2 hk2 hk hst2 hst hsz2 hsz hun2 hun Q := by
  have n18 := K.n18 O
  have hvge := tn_ge K.vs1
  unfold w_Train_copyFrom
  refine R_copy C.row (by show T.n ≤ 20; omega) (fun i' K' L' W' S' E' P' H' r => ?_)
  unfold w_Halves_copyFrom
  refine hq _ _ _ _ _ _ _ _ _ _ _ _ _ _ ⟨r, ?_, ?_, ?_, ?_, ?_, ?_, ?_⟩
  · rw [upd_s]; exact C.run
  · rw [upd_s]; exact C.v
  · rw [upd_n (by omega), upd_s]; exact C.st
  · intro j hj; rw [cpy_lt (by omega)]; exact C.sz j hj
  · intro j hj; rw [cpy_lt (by omega)]; exact C.un j hj
  · intro j hj; rw [cpy_lt (by omega)]; exact C.sa j hj
  · intro j hj q hq
    have htm := tn_mono (f := T.vs) hj
    rw [cpy_lt (by omega)]; exact C.kd j hj q hq
theorem C_copyL {σ : Nat → Int} (O : LOk σ) {il2 gl2 hl2 ol2 d2 fl2 : F32} (I : LnI σ il2) (G : LnG σ gl2) (HH : LnH σ hl2) (OO : LnO σ ol2) (D : LnK σ d2) (FF : LnF σ fl2) {il gl hl ol d fl : F32} {Q : F32 → F32 → F32 → F32 → F32 → F32 → Prop} (hq : ∀ il' gl' hl' ol' d' fl', LnI σ il' → LnG σ gl' → LnH σ hl' → LnO σ ol' → LnK σ d' → LnF σ fl' → Q il' gl' hl' ol' d' fl') : w_Line_copyFrom il il2 gl2 gl hl2 hl ol2 ol d2 d fl2 fl Q := by
  have h1 := O.u
  have h2 := O.hc
  have h3 := O.lc
  have h4 := O.kc
  have h5 := O.fc
  unfold w_Line_copyFrom
  refine hq _ _ _ _ _ _ ⟨?_, ?_, ?_, ?_, ?_, ?_, ?_, ?_, ?_, ?_, ?_⟩ (fun j hj => ?_) (fun k hk => ?_) (fun j hj => ?_) (fun j hj => ?_) (fun j hj => ?_)
  · rw [upd_n (by omega), upd_n (by omega), upd_n (by omega), upd_n (by omega), upd_n (by omega), upd_n (by omega), upd_n (by omega), upd_n (by omega), upd_n (by omega), upd_n (by omega), upd_s]; exact I.u
  · rw [upd_n (by omega), upd_n (by omega), upd_n (by omega), upd_n (by omega), upd_n (by omega), upd_n (by omega), upd_n (by omega), upd_n (by omega), upd_n (by omega), upd_s]; exact I.hc
  · rw [upd_n (by omega), upd_n (by omega), upd_n (by omega), upd_n (by omega), upd_n (by omega), upd_n (by omega), upd_n (by omega), upd_n (by omega), upd_s]; exact I.lc
  · rw [upd_n (by omega), upd_n (by omega), upd_n (by omega), upd_n (by omega), upd_n (by omega), upd_n (by omega), upd_n (by omega), upd_s]; exact I.kc
  · rw [upd_n (by omega), upd_n (by omega), upd_n (by omega), upd_n (by omega), upd_n (by omega), upd_n (by omega), upd_s]; exact I.fc
  · rw [upd_n (by omega), upd_n (by omega), upd_n (by omega), upd_n (by omega), upd_n (by omega), upd_s]; exact I.pull
  · rw [upd_n (by omega), upd_n (by omega), upd_n (by omega), upd_n (by omega), upd_s]; exact I.eng
  · rw [upd_n (by omega), upd_n (by omega), upd_n (by omega), upd_s]; exact I.rub
  · rw [upd_n (by omega), upd_n (by omega), upd_s]; exact I.sand
  · rw [upd_n (by omega), upd_s]; exact I.wear
  · rw [upd_s]; exact I.walk
  · rw [cpy_lt (by omega)]; exact G j hj
  · rw [cpy_lt (by omega), cpy_lt (by omega), cpy_lt (by omega)]; exact HH k hk
  · rw [cpy_lt (by omega)]; exact OO j hj
  · rw [cpy_lt (by omega)]; exact D j hj
  · rw [cpy_lt (by omega)]; exact FF j hj
theorem C_copyP {P : PS} (PK : POk P) {ip2 pw2 pf2 pq2 : F32} (C : CP P ip2 pw2 pf2 pq2) {ip pw pf pq : F32} {Q : F32 → F32 → F32 → F32 → Prop} (hq : ∀ ip' pw' pf' pq', CP P ip' pw' pf' pq' → Q ip' pw' pf' pq') : w_Plan_copyFrom ip ip2 pw2 pw pf2 pf pq2 pq Q := by
  have h1 := PK.n
  unfold w_Plan_copyFrom
  refine hq _ _ _ _ ⟨?_, fun i hi => ?_, fun i hi hw => ?_, fun i hi hw => ?_⟩
  · rw [upd_s]; exact C.n
  · rw [cpy_lt (by omega)]; exact C.w i hi
  · rw [cpy_lt (by omega)]; exact C.a i hi hw
  · rw [cpy_lt (by omega)]; exact C.b i hi hw
/-! what stands, in class and reference -/
theorem Eqv.rf {σ : Nat → Int} : Eqv σ σ := fun _ _ => rfl
theorem hb_c {τ σ : Nat → Int} (O : LOk τ) (e : Eqv τ σ) (h : Int) : hb σ h = hb τ h := by
  have hhc := O.hc
  refine hb_eq (O.c e) ?_ (fun k hk => ?_) (fun k hk hk2 => ?_)
  · rw [e 1 (by omega)]; exact hb_le O h
  · have := hb_le O h
    rw [AT_c e (by omega) (by omega)]
    exact (hb_sp O h (k := k) (by omega)).mp hk
  · rw [e 1 (by omega)] at hk2
    rw [AT_c e (by omega) (by omega)]
    have := hb_sp O h (k := k) hk2
    omega
theorem LnI.e {τ σ : Nat → Int} (e : Eqv τ σ) {il : F32} (I : LnI τ il) : LnI σ il :=
  ⟨by rw [e 0 (by omega)]; exact I.u, by rw [e 1 (by omega)]; exact I.hc, by rw [e 2 (by omega)]; exact I.lc, by rw [e 3 (by omega)]; exact I.kc, by rw [e 10 (by omega)]; exact I.fc, by rw [e 4 (by omega)]; exact I.pull, by rw [e 5 (by omega)]; exact I.eng, by rw [e 6 (by omega)]; exact I.rub, by rw [e 7 (by omega)]; exact I.sand, by rw [e 8 (by omega)]; exact I.wear, by rw [e 9 (by omega)]; exact I.walk⟩
theorem LnG.e {τ σ : Nat → Int} (O : LOk τ) (e : Eqv τ σ) {g : F32} (G : LnG τ g) : LnG σ g := fun j hj => by
  have := O.u
  rw [e 0 (by omega)] at hj
  rw [e (11 + j) (by omega)]; exact G j hj
theorem LnH.e {τ σ : Nat → Int} (O : LOk τ) (e : Eqv τ σ) {g : F32} (G : LnH τ g) : LnH σ g := fun j hj => by
  have := O.hc
  rw [e 1 (by omega)] at hj
  rw [AT_c e (by omega) (by omega), HL_c e (by omega) (by omega), AD_c e (by omega) (by omega)]; exact G j hj
theorem LnO.e {τ σ : Nat → Int} (O : LOk τ) (e : Eqv τ σ) {g : F32} (G : LnO τ g) : LnO σ g := fun j hj => by
  have := O.lc
  rw [e 2 (by omega)] at hj
  rw [e (441 + j) (by omega)]; exact G j hj
theorem LnK.e {τ σ : Nat → Int} (O : LOk τ) (e : Eqv τ σ) {g : F32} (G : LnK τ g) : LnK σ g := fun j hj => by
  have := O.kc
  rw [e 3 (by omega)] at hj
  rw [e (457 + j) (by omega)]; exact G j hj
theorem LnF.e {τ σ : Nat → Int} (O : LOk τ) (e : Eqv τ σ) {g : F32} (G : LnF τ g) : LnF σ g := fun j hj => by
  have := O.fc
  rw [e 10 (by omega)] at hj
  rw [e (475 + j) (by omega)]; exact G j hj
theorem TOk.e {τ σ : Nat → Int} (O : LOk τ) (e : Eqv τ σ) {T : TS} (K : TOk τ T) : TOk σ T := by
  refine ⟨K.hd0, by rw [e 0 (by omega)]; exact K.hd1, K.k.c e, by rw [hb_c O e]; exact K.sz, K.vs1, fun j hj i hi => by rw [e 3 (by omega)]; exact K.vk j hj i hi, fun j hj => by rw [e 0 (by omega)]; exact K.vu j hj, K.hp4, K.hpa⟩
theorem RowR.eq {τ σ : Nat → Int} (O : LOk τ) (e : Eqv τ σ) {T : TS} (K : TOk τ T) {head : Int} {nh : Nat} {i kk L W S E P H : F32} (r : RowR τ (TX τ T) head nh i kk L W S E P H) : RowR σ (TX σ T) head nh i kk L W S E P H := by
  have hkc := O.kc
  have hk : ∀ j, j < T.n → 0 ≤ T.k j ∧ T.k j ≤ 5 := fun j hj => by have := K.k j hj; omega
  refine ⟨r.sz, ?_, r.hd, r.nx, r.k, fun j hj => ?_, fun j hj => ?_, fun j hj => ?_, r.e, r.p, r.h⟩
  · rw [r.tot]
    show eI (sm (fun j => LG τ (T.k j)) T.n) = eI (sm (fun j => LG σ (T.k j)) T.n)
    rw [sm_congr (fun j hj => (LG_c e (hk j hj).1 (hk j hj).2).symm)]
  · rw [r.l j hj]
    show eI (LG τ (T.k j)) = eI (LG σ (T.k j))
    rw [LG_c e (hk j hj).1 (hk j hj).2]
  · rw [r.w j hj]
    show eI (WT τ (T.k j)) = eI (WT σ (T.k j))
    rw [WT_c e (hk j hj).1 (hk j hj).2]
  · rw [r.s j hj]
    show eI (ST τ (T.k j)) = eI (ST σ (T.k j))
    rw [ST_c e (hk j hj).1 (hk j hj).2]
theorem CT.e {τ σ : Nat → Int} (O : LOk τ) (e : Eqv τ σ) {T : TS} (K : TOk τ T) {it i kk L W S E P H ih hst hsz hun hk : F32} (C : CT τ T it i kk L W S E P H ih hst hsz hun hk) : CT σ T it i kk L W S E P H ih hst hsz hun hk := by
  refine ⟨?_, C.run, C.v, C.st, C.sz, C.un, C.sa, C.kd⟩
  rw [hb_c O e]
  exact C.row.eq O e K
abbrev Stt (σ : Nat → Int) (T : TS) (P : PS) (il gl hl ol d fl it i kk L W S E Pu H ih hst hsz hun hk ip pw pf pq : F32) : Prop :=
  (LOk σ) ∧
  (TOk σ T) ∧
  (RT σ T) ∧
  (POk P) ∧
  (RP σ P) ∧
  (LnI σ il) ∧
  (LnG σ gl) ∧
  (LnH σ hl) ∧
  (LnO σ ol) ∧
  (LnK σ d) ∧
  (LnF σ fl) ∧
  (CT σ T it i kk L W S E Pu H ih hst hsz hun hk) ∧
  (CP P ip pw pf pq)
theorem Stt.O {σ : Nat → Int} {T : TS} {P : PS} {il gl hl ol d fl it i kk L W S E Pu H ih hst hsz hun hk ip pw pf pq : F32} (h : Stt σ T P il gl hl ol d fl it i kk L W S E Pu H ih hst hsz hun hk ip pw pf pq) : LOk σ := h.1
theorem Stt.K {σ : Nat → Int} {T : TS} {P : PS} {il gl hl ol d fl it i kk L W S E Pu H ih hst hsz hun hk ip pw pf pq : F32} (h : Stt σ T P il gl hl ol d fl it i kk L W S E Pu H ih hst hsz hun hk ip pw pf pq) : TOk σ T := h.2.1
theorem Stt.R {σ : Nat → Int} {T : TS} {P : PS} {il gl hl ol d fl it i kk L W S E Pu H ih hst hsz hun hk ip pw pf pq : F32} (h : Stt σ T P il gl hl ol d fl it i kk L W S E Pu H ih hst hsz hun hk ip pw pf pq) : RT σ T := h.2.2.1
theorem Stt.PK {σ : Nat → Int} {T : TS} {P : PS} {il gl hl ol d fl it i kk L W S E Pu H ih hst hsz hun hk ip pw pf pq : F32} (h : Stt σ T P il gl hl ol d fl it i kk L W S E Pu H ih hst hsz hun hk ip pw pf pq) : POk P := h.2.2.2.1
theorem Stt.RP {σ : Nat → Int} {T : TS} {P : PS} {il gl hl ol d fl it i kk L W S E Pu H ih hst hsz hun hk ip pw pf pq : F32} (h : Stt σ T P il gl hl ol d fl it i kk L W S E Pu H ih hst hsz hun hk ip pw pf pq) : RP σ P := h.2.2.2.2.1
theorem Stt.I {σ : Nat → Int} {T : TS} {P : PS} {il gl hl ol d fl it i kk L W S E Pu H ih hst hsz hun hk ip pw pf pq : F32} (h : Stt σ T P il gl hl ol d fl it i kk L W S E Pu H ih hst hsz hun hk ip pw pf pq) : LnI σ il := h.2.2.2.2.2.1
theorem Stt.G {σ : Nat → Int} {T : TS} {P : PS} {il gl hl ol d fl it i kk L W S E Pu H ih hst hsz hun hk ip pw pf pq : F32} (h : Stt σ T P il gl hl ol d fl it i kk L W S E Pu H ih hst hsz hun hk ip pw pf pq) : LnG σ gl := h.2.2.2.2.2.2.1
theorem Stt.HH {σ : Nat → Int} {T : TS} {P : PS} {il gl hl ol d fl it i kk L W S E Pu H ih hst hsz hun hk ip pw pf pq : F32} (h : Stt σ T P il gl hl ol d fl it i kk L W S E Pu H ih hst hsz hun hk ip pw pf pq) : LnH σ hl := h.2.2.2.2.2.2.2.1
theorem Stt.OO {σ : Nat → Int} {T : TS} {P : PS} {il gl hl ol d fl it i kk L W S E Pu H ih hst hsz hun hk ip pw pf pq : F32} (h : Stt σ T P il gl hl ol d fl it i kk L W S E Pu H ih hst hsz hun hk ip pw pf pq) : LnO σ ol := h.2.2.2.2.2.2.2.2.1
theorem Stt.D {σ : Nat → Int} {T : TS} {P : PS} {il gl hl ol d fl it i kk L W S E Pu H ih hst hsz hun hk ip pw pf pq : F32} (h : Stt σ T P il gl hl ol d fl it i kk L W S E Pu H ih hst hsz hun hk ip pw pf pq) : LnK σ d := h.2.2.2.2.2.2.2.2.2.1
theorem Stt.FF {σ : Nat → Int} {T : TS} {P : PS} {il gl hl ol d fl it i kk L W S E Pu H ih hst hsz hun hk ip pw pf pq : F32} (h : Stt σ T P il gl hl ol d fl it i kk L W S E Pu H ih hst hsz hun hk ip pw pf pq) : LnF σ fl := h.2.2.2.2.2.2.2.2.2.2.1
theorem Stt.C {σ : Nat → Int} {T : TS} {P : PS} {il gl hl ol d fl it i kk L W S E Pu H ih hst hsz hun hk ip pw pf pq : F32} (h : Stt σ T P il gl hl ol d fl it i kk L W S E Pu H ih hst hsz hun hk ip pw pf pq) : CT σ T it i kk L W S E Pu H ih hst hsz hun hk := h.2.2.2.2.2.2.2.2.2.2.2.1
theorem Stt.CP {σ : Nat → Int} {T : TS} {P : PS} {il gl hl ol d fl it i kk L W S E Pu H ih hst hsz hun hk ip pw pf pq : F32} (h : Stt σ T P il gl hl ol d fl it i kk L W S E Pu H ih hst hsz hun hk ip pw pf pq) : CP P ip pw pf pq := h.2.2.2.2.2.2.2.2.2.2.2.2
/-- the line is the same, the train another -/
theorem Stt.mv {σ σ' : Nat → Int} {T T' : TS} {P : PS} {il gl hl ol d fl it i kk L W S E Pu H ih hst hsz hun hk ip pw pf pq it' i' kk' L' W' S' E' Pu' H' ih' hst' hsz' hun' hk' : F32} (S1 : Stt σ T P il gl hl ol d fl it i kk L W S E Pu H ih hst hsz hun hk ip pw pf pq) (e : Eqv σ σ') (t : ∀ q, 977 ≤ q → q < 1068 → σ' q = σ q) (K' : TOk σ T') (R' : RT σ' T') (C' : CT σ T' it' i' kk' L' W' S' E' Pu' H' ih' hst' hsz' hun' hk') : Stt σ' T' P il gl hl ol d fl it' i' kk' L' W' S' E' Pu' H' ih' hst' hsz' hun' hk' ip pw pf pq :=
  ⟨S1.O.c e, K'.e S1.O e, R', S1.PK, S1.RP.g t S1.PK, S1.I.e e, S1.G.e S1.O e, S1.HH.e S1.O e, S1.OO.e S1.O e, S1.D.e S1.O e, S1.FF.e S1.O e, C'.e S1.O e K', S1.CP⟩
theorem Stt.A {σ σ' : Nat → Int} {T : TS} {P : PS} {il gl hl ol d fl it i kk L W S E Pu H ih hst hsz hun hk ip pw pf pq : F32} (S1 : Stt σ T P il gl hl ol d fl it i kk L W S E Pu H ih hst hsz hun hk ip pw pf pq) (e : EqA σ σ') : Stt σ' T P il gl hl ol d fl it i kk L W S E Pu H ih hst hsz hun hk ip pw pf pq :=
  S1.mv (e.v Eqv.rf) (fun q _ hq => e q hq) S1.K (RT.g S1.O Eqv.rf e S1.R S1.K) S1.C
abbrev QS := F32 → F32 → F32 → F32 → F32 → F32 → F32 → F32 → F32 → F32 → F32 → F32 → F32 → F32 → F32 → F32 → F32 → F32 → F32 → F32 → F32 → F32 → F32 → F32 → Prop
theorem C_copyS {σ : Nat → Int} {T : TS} {P : PS} {il2 gl2 hl2 ol2 d2 fl2 it2 i2 kk2 L2 W2 S2 E2 Pu2 H2 ih2 hst2 hsz2 hun2 hk2 ip2 pw2 pf2 pq2 : F32} (S1 : Stt σ T P il2 gl2 hl2 ol2 d2 fl2 it2 i2 kk2 L2 W2 S2 E2 Pu2 H2 ih2 hst2 hsz2 hun2 hk2 ip2 pw2 pf2 pq2) {il gl hl ol d fl it i kk L W S E Pu H ih hst hsz hun hk ip pw pf pq : F32} {Q : QS} (hq : ∀ il' gl' hl' ol' d' fl' it' i' kk' L' W' S' E' Pu' H' ih' hst' hsz' hun' hk' ip' pw' pf' pq', Stt σ T P il' gl' hl' ol' d' fl' it' i' kk' L' W' S' E' Pu' H' ih' hst' hsz' hun' hk' ip' pw' pf' pq' → Q il' gl' hl' ol' d' fl' ip' pw' pf' pq' it' i' kk' L' W' S' E' Pu' H' ih' hk' hst' hsz' hun') : w_State_copyFrom il il2 gl2 gl hl2 hl ol2 ol d2 d fl2 fl ip ip2 pw2 pw pf2 pf pq2 pq it it2 i i2 kk2 kk L2 L W2 W S2 S E2 E Pu2 Pu H2 H ih ih2 hk2 hk hst2 hst hsz2 hsz hun2 hun Q := by
  unfold w_State_copyFrom
  refine C_copyL S1.O S1.I S1.G S1.HH S1.OO S1.D S1.FF (fun il' gl' hl' ol' d' fl' I' G' HH' OO' D' FF' => ?_)
  refine C_copyP S1.PK S1.CP (fun ip' pw' pf' pq' CP' => ?_)
  refine C_copyT S1.O S1.K S1.C (fun it' i' kk' L' W' S' E' P' H' ih' hst' hsz' hun' hk' C' => ?_)
  exact hq _ _ _ _ _ _ _ _ _ _ _ _ _ _ _ _ _ _ _ _ _ _ _ _ ⟨S1.O, S1.K, S1.R, S1.PK, S1.RP, I', G', HH', OO', D', FF', C', CP'⟩
theorem C_judge {τ : Nat → Int} (O : LOk τ) {T : TS} (K : TOk τ T) {P : PS} (PK : POk P) {ip pw pf pq : F32} (CP' : CP P ip pw pf pq) {il gl hl d : F32} (I : LnI τ il) (G : LnG τ gl) (HH : LnH τ hl) (D : LnK τ d) {ic td it i kk L W S E Pu H ih hst hsz hun hk b it2 i2 kk2 L2 W2 S2 E2 Pu2 H2 ih2 hst2 hsz2 hun2 hk2 b2 : F32} (C : CT τ T it i kk L W S E Pu H ih hst hsz hun hk) {h : Int} (hh : B31 h) {Q : Int32 → F32 → F32 → F32 → F32 → F32 → F32 → F32 → F32 → F32 → F32 → F32 → F32 → F32 → F32 → F32 → F32 → F32 → F32 → F32 → F32 → F32 → F32 → F32 → F32 → F32 → F32 → F32 → F32 → F32 → F32 → F32 → F32 → Prop} (hn : ¬ (0 ≤ h ∧ h ≤ 1) → Q (-2) ic it2 it i2 i kk kk2 L L2 W W2 S S2 E E2 Pu Pu2 H H2 ih2 ih hk hk2 hst hst2 hsz hsz2 hun hun2 td b b2)
    (h0 : h = 0 → ∀ ic' td' it' i' kk' L' W' S' E' P' H' ih' hst' hsz' hun' hk' b', ic' 1 = 1 → td' 0 = eI (jd τ P P.n 0 T 0 0).2.1 → td' 1 = eI (jd τ P P.n 0 T 0 0).2.2.2.1 → td' 2 = eI (jd τ P P.n 0 T 0 0).2.2.2.2 → td' 3 = eI (jd τ P P.n 0 T 0 0).2.2.1.hd → td' 4 = eI (jd τ P P.n 0 T 0 0).2.2.1.n → td' 5 = eI (jd τ P P.n 0 T 0 0).2.2.1.v → Q (eI (jd τ P P.n 0 T 0 0).1) ic' it' it i' i kk kk' L L' W W' S S' E E' Pu P' H H' ih' ih hk hk' hst hst' hsz hsz' hun hun' td' b b')
    (h1 : h = 1 → ∀ ic' td' it' i' kk' L' W' S' E' P' H' ih' hst' hsz' hun' hk' b', ic' 1 = 1 → td' 0 = eI (jd τ P P.n 0 T 0 0).2.1 → td' 1 = eI (jd τ P P.n 0 T 0 0).2.2.2.1 → td' 2 = eI (jd τ P P.n 0 T 0 0).2.2.2.2 → td' 3 = eI (jd τ P P.n 0 T 0 0).2.2.1.hd → td' 4 = eI (jd τ P P.n 0 T 0 0).2.2.1.n → td' 5 = eI (jd τ P P.n 0 T 0 0).2.2.1.v → CT τ (jd τ P P.n 0 T 0 0).2.2.1 it' i' kk' L' W' S' E' P' H' ih' hst' hsz' hun' hk' → Q (eI (jd τ P P.n 0 T 0 0).1) ic' it2 it' i2 i' kk' kk2 L' L2 W' W2 S' S2 E' E2 P' Pu2 H' H2 ih2 ih' hk' hk2 hst' hst2 hsz' hsz2 hun' hun2 td' b' b2) : w_LongTrain_judge ic it2 ip it i2 i kk kk2 L L2 W W2 S S2 E E2 Pu Pu2 H H2 ih2 ih hk hk2 hst hst2 hsz hsz2 hun hun2 il td pw pf pq gl b hl d b2 (eI h) Q := by
  unfold w_LongTrain_judge
  refine q_ne (b := 1) hh (by (first | exact B31_s (by omega) (by omega) | exact B31_of _ | (constructor <;> omega))) (fun n1 => ?_) (fun e1 => ?_)
  · refine q_eq (b := 0) hh (by (first | exact B31_s (by omega) (by omega) | exact B31_of _ | (constructor <;> omega))) (fun e0 => ?_) (fun n0 => hn (by omega))
    refine C_copyT O K C (fun it' i' kk' L' W' S' E' P' H' ih' hst' hsz' hun' hk' C' => ?_)
    refine C_run O K PK CP' I G HH D C' (fun ic3 td3 it3 i3 kk3 L3 W3 S3 E3 P3 H3 ih3 hst3 hsz3 hun3 hk3 b3 k1 t0 t1 t2 t3 t4 t5 C3 => ?_)
    exact h0 e0 _ _ _ _ _ _ _ _ _ _ _ _ _ _ _ _ _ k1 t0 t1 t2 t3 t4 t5
  · refine C_run O K PK CP' I G HH D C (fun ic3 td3 it3 i3 kk3 L3 W3 S3 E3 P3 H3 ih3 hst3 hsz3 hun3 hk3 b3 k1 t0 t1 t2 t3 t4 t5 C3 => ?_)
    exact h1 e1 _ _ _ _ _ _ _ _ _ _ _ _ _ _ _ _ _ k1 t0 t1 t2 t3 t4 t5 C3
/-! the reference's images -/
theorem M_image {σ : Nat → Int} {i kp ik : F32} {nk nm : Nat → Int64} {k : Int} (hk : B31 k) {Q : Int32 → F32 → F32 → F32 → (Nat → Int64) → Prop} (h0 : ¬ (0 ≤ k ∧ k ≤ 1) → ∀ i', KP i i' → Q 0 i' kp ik nk) (hq : 0 ≤ k ∧ k ≤ 1 → ∀ i' kp' ik' nk', KP i i' → (∀ q, q < 1068 → kp' (1068 * k.toNat + q) = eI (σ q)) → (∀ q, q < 1068 → kp' (1068 * (1 - k.toNat) + q) = kp (1068 * (1 - k.toNat) + q)) → ik' k.toNat = 1 → ik' (1 - k.toNat) = ik (1 - k.toNat) → Q 1 i' kp' ik' nk') : w_LongTrainModel_image i kp ik nk (eF σ) nm (eI k) Q := by
  unfold w_LongTrainModel_image
  refine M_isIn (b := 0) (c := 1) hk (by (first | exact B31_s (by omega) (by omega) | exact B31_of _ | (constructor <;> omega))) (by (first | exact B31_s (by omega) (by omega) | exact B31_of _ | (constructor <;> omega))) (fun a1 a2 => ?_) (fun a => by (first | refine z0T ?_ | refine z0N ?_); exact h0 a _ KP.u0)
  (first | refine z1T ?_ | refine z1N ?_)
  have hq' := hq ⟨a1, a2⟩
  refine lg_LongTrainModel_image_18 (G := Nat) (fun g x r => g ≤ 1068 ∧ x = eI g ∧ (∀ q, q < g → r (1068 * k.toNat + q) = eI (σ q)) ∧ ∀ q, q < 1068 → r (1068 * (1 - k.toNat) + q) = kp (1068 * (1 - k.toNat) + q)) (fun g => 1068 - g) ?_ 0 ⟨by omega, rfl, fun q hq => absurd hq (Nat.not_lt_zero _), fun _ _ => rfl⟩
  rintro kr g x r ⟨hg, rfl, hl, ho⟩ hs
  unfold b_LongTrainModel_image_18
  refine q_le (a := 1068) (by (first | exact B31_s (by omega) (by omega) | exact B31_of _ | (constructor <;> omega))) (by (first | exact B31_s (by omega) (by omega) | exact B31_of _ | (constructor <;> omega))) (fun h => ?_) (fun h => ?_)
  · have eg : g = 1068 := by omega
    subst eg
    refine lg_LongTrainModel_image_51 (G := Nat) (fun g x r => g ≤ 16 ∧ x = eI g) (fun g => 16 - g) ?_ 0 ⟨by omega, rfl⟩
    rintro kr g x nk' ⟨hg6, rfl⟩ hs
    unfold b_LongTrainModel_image_51
    refine q_le (a := 16) (by (first | exact B31_s (by omega) (by omega) | exact B31_of _ | (constructor <;> omega))) (by (first | exact B31_s (by omega) (by omega) | exact B31_of _ | (constructor <;> omega))) (fun h => ?_) (fun h => ?_)
    · refine And.intro (eI_in (by omega) (by omega) (by omega)) ?_; (try simp (disch := omega) only [eI_cl, Int.toNat_natCast])
      refine hq' _ _ _ _ KP.u0 hl ho ?_ ?_
      · rw [upd_s]; decide
      · rw [upd_n (by omega)]
    · (try simp only [eI_lit, eI_neg, eI_add, eI_sub, eI_mul, eF_ap, upd_eF]); refine And.intro (eI_in (by omega) (by omega) (by omega)) ?_; refine And.intro (eI_in (by omega) (by omega) (by omega)) ?_
      exact hs (g + 1) _ _ (by omega) ⟨by omega, by congr 1⟩
  · have e1 : (1068 * k + (g : Int)).toNat = 1068 * k.toNat + g := by omega
    (try simp only [eI_lit, eI_neg, eI_add, eI_sub, eI_mul, eF_ap, upd_eF]); refine And.intro (eI_in (by omega) (by omega) (by omega)) ?_; refine And.intro (eI_in (by omega) (by omega) (by omega)) ?_; (try simp (disch := omega) only [eI_cl, Int.toNat_natCast])
    rw [e1]
    refine hs (g + 1) _ _ (by omega) ⟨by omega, by congr 1, fun q hq => ?_, fun q hq => ?_⟩
    · by_cases hqe : q = g
      · subst hqe; rw [upd_s]
      · rw [upd_n (by omega)]; exact hl q (by omega)
    · rw [upd_n (by omega)]; exact ho q hq
theorem M_restore {σ : Nat → Int} {i kp ik : F32} {nk nm : Nat → Int64} {k : Int} (hk : B31 k) {Q : Int32 → F32 → F32 → (Nat → Int64) → Prop} (h0 : ¬ (0 ≤ k ∧ k ≤ 1) ∨ ik k.toNat = 0 → ∀ i', KP i i' → Q 0 i' (eF σ) nm) (hq : 0 ≤ k ∧ k ≤ 1 → ¬ ik k.toNat = 0 → ∀ i' s' nm', KP i i' → (∀ q, q < 1068 → s' q = kp (1068 * k.toNat + q)) → Q 1 i' s' nm') : w_LongTrainModel_restore i ik (eF σ) kp nm nk (eI k) Q := by
  unfold w_LongTrainModel_restore
  refine M_isIn (b := 0) (c := 1) hk (by (first | exact B31_s (by omega) (by omega) | exact B31_of _ | (constructor <;> omega))) (by (first | exact B31_s (by omega) (by omega) | exact B31_of _ | (constructor <;> omega))) (fun a1 a2 => ?_) (fun a => by (first | refine z0T ?_ | refine z0N ?_); exact h0 (Or.inl a) _ KP.u0)
  (first | refine z1T ?_ | refine z1N ?_)
  refine And.intro (eI_in (by omega) (by omega) (by omega)) ?_; (try simp (disch := omega) only [eI_cl, Int.toNat_natCast])
  refine ⟨fun hne => ?_, fun heq => h0 (Or.inr heq) _ KP.u0⟩
  have hq' := hq ⟨a1, a2⟩ hne
  refine lg_LongTrainModel_restore_27 (G := Nat) (fun g x r => g ≤ 1068 ∧ x = eI g ∧ (∀ q, q < g → r q = kp (1068 * k.toNat + q))) (fun g => 1068 - g) ?_ 0 ⟨by omega, rfl, fun q hq => absurd hq (Nat.not_lt_zero _)⟩
  rintro kr g x r ⟨hg, rfl, hl⟩ hs
  unfold b_LongTrainModel_restore_27
  refine q_le (a := 1068) (by (first | exact B31_s (by omega) (by omega) | exact B31_of _ | (constructor <;> omega))) (by (first | exact B31_s (by omega) (by omega) | exact B31_of _ | (constructor <;> omega))) (fun h => ?_) (fun h => ?_)
  · have eg : g = 1068 := by omega
    subst eg
    refine lg_LongTrainModel_restore_60 (G := Nat) (fun g x r => g ≤ 16 ∧ x = eI g) (fun g => 16 - g) ?_ 0 ⟨by omega, rfl⟩
    rintro kr g x nk' ⟨hg6, rfl⟩ hs
    unfold b_LongTrainModel_restore_60
    refine q_le (a := 16) (by (first | exact B31_s (by omega) (by omega) | exact B31_of _ | (constructor <;> omega))) (by (first | exact B31_s (by omega) (by omega) | exact B31_of _ | (constructor <;> omega))) (fun h => ?_) (fun h => ?_)
    · exact hq' _ _ _ KP.u0 hl
    · (try simp only [eI_lit, eI_neg, eI_add, eI_sub, eI_mul, eF_ap, upd_eF]); refine And.intro (eI_in (by omega) (by omega) (by omega)) ?_; refine And.intro (eI_in (by omega) (by omega) (by omega)) ?_
      exact hs (g + 1) _ _ (by omega) ⟨by omega, by congr 1⟩
  · have e1 : (1068 * k + (g : Int)).toNat = 1068 * k.toNat + g := by omega
    (try simp only [eI_lit, eI_neg, eI_add, eI_sub, eI_mul, eF_ap, upd_eF]); refine And.intro (eI_in (by omega) (by omega) (by omega)) ?_; refine And.intro (eI_in (by omega) (by omega) (by omega)) ?_; (try simp (disch := omega) only [eI_cl, Int.toNat_natCast])
    rw [e1]
    refine hs (g + 1) _ _ (by omega) ⟨by omega, by congr 1, fun q hq => ?_⟩
    by_cases hqe : q = g
    · subst hqe; rw [upd_s]
    · rw [upd_n (by omega)]; exact hl q (by omega)
