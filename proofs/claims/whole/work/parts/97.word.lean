/-! words -/
theorem lgc {x y : Int64} : lg_cmp x y = 0 ↔ x = y := by
  unfold lg_cmp
  by_cases h : x > y
  · rw [if_pos h]
    refine ⟨fun h1 => absurd h1 one_ne, fun h1 => ?_⟩
    subst h1; exact (Int64.lt_irrefl h).elim
  · rw [if_neg h]
    by_cases h2 : x = y
    · rw [if_pos h2]; exact ⟨fun _ => h2, fun _ => rfl⟩
    · rw [if_neg h2]; exact ⟨fun h3 => absurd h3 (by decide), fun h3 => absurd h3 h2⟩
theorem eJ_toInt {a : Int} (h0 : 0 ≤ a) (h1 : a < 72057594037927936) : (eJ a).toInt = a := Int64.toInt_ofInt_of_le (by simp; omega) (by simp; omega)
theorem eJ_eq {a b : Int} (ha : 0 ≤ a) (ha' : a < 72057594037927936) (hb : 0 ≤ b) (hb' : b < 72057594037927936) : eJ a = eJ b ↔ a = b := by
  rw [← Int64.toInt_inj, eJ_toInt ha ha', eJ_toInt hb hb']
theorem q_jn {a b : Int} {A B : Prop} (ha : 0 ≤ a) (ha' : a < 72057594037927936) (hb : 0 ≤ b) (hb' : b < 72057594037927936) (f : a ≠ b → A) (g : a = b → B) : (¬ lg_cmp (eJ a) (eJ b) = 0 → A) ∧ (lg_cmp (eJ a) (eJ b) = 0 → B) :=
  ⟨fun h => f (fun e => h (lgc.mpr (by rw [e]))), fun h => g ((eJ_eq ha ha' hb hb').mp (lgc.mp h))⟩
theorem q_je {a b : Int} {A B : Prop} (ha : 0 ≤ a) (ha' : a < 72057594037927936) (hb : 0 ≤ b) (hb' : b < 72057594037927936) (f : a = b → A) (g : a ≠ b → B) : (lg_cmp (eJ a) (eJ b) = 0 → A) ∧ (¬ lg_cmp (eJ a) (eJ b) = 0 → B) :=
  ⟨fun h => f ((eJ_eq ha ha' hb hb').mp (lgc.mp h)), fun h => g (fun e => h (lgc.mpr (by rw [e])))⟩
def lts (c : Nat → Int) (s d : Nat) : Prop := ∀ q, q < d → ltr (c (s + q))
theorem lts.p {c : Nat → Int} {s d : Nat} (h : lts c s (d + 1)) : lts c s d := fun q hq => h q (by omega)
theorem wv_bd {c : Nat → Int} {s : Nat} : ∀ {d : Nat}, lts c s d → 0 ≤ wv c s d ∧ wv c s d < 256 ^ d
  | 0, _ => by simp [wv]
  | d + 1, h => by
    have ih := wv_bd h.p
    have hl := h d (by omega)
    unfold ltr at hl
    have e : (256 : Int) ^ (d + 1) = 256 * 256 ^ d := by rw [Int.pow_succ, Int.mul_comm]
    rw [wv, e]; omega
theorem lv_bd {c : Nat → Int} {s : Nat} : ∀ {d : Nat}, lts c s d → 0 ≤ lv c s d ∧ lv c s d < 32 ^ d
  | 0, _ => by simp [lv]
  | d + 1, h => by
    have ih := lv_bd h.p
    have hl := h d (by omega)
    unfold ltr at hl
    have e : (32 : Int) ^ (d + 1) = 32 * 32 ^ d := by rw [Int.pow_succ, Int.mul_comm]
    rw [lv, e]; omega
theorem wv_inj {c c' : Nat → Int} {s s' : Nat} : ∀ {d d' : Nat}, lts c s d → lts c' s' d' → wv c s d = wv c' s' d' → d = d' ∧ ∀ q, q < d → c (s + q) = c' (s' + q)
  | 0, 0, _, _, _ => ⟨rfl, fun q hq => absurd hq (Nat.not_lt_zero _)⟩
  | 0, d' + 1, h, h', e => by
    have b := wv_bd h'.p
    have hl := h' d' (by omega)
    unfold ltr at hl
    rw [wv, wv] at e; omega
  | d + 1, 0, h, h', e => by
    have b := wv_bd h.p
    have hl := h d (by omega)
    unfold ltr at hl
    rw [wv, wv] at e; omega
  | d + 1, d' + 1, h, h', e => by
    have hl := h d (by omega)
    have hl' := h' d' (by omega)
    unfold ltr at hl hl'
    rw [wv, wv] at e
    obtain ⟨e1, e2⟩ := wv_inj h.p h'.p (show wv c s d = wv c' s' d' by omega)
    subst e1
    refine ⟨rfl, fun q hq => ?_⟩
    by_cases hh : q = d
    · subst hh; omega
    · exact e2 q (by omega)
theorem lv_inj {c c' : Nat → Int} {s s' : Nat} : ∀ {d d' : Nat}, lts c s d → lts c' s' d' → lv c s d = lv c' s' d' → d = d' ∧ ∀ q, q < d → c (s + q) = c' (s' + q)
  | 0, 0, _, _, _ => ⟨rfl, fun q hq => absurd hq (Nat.not_lt_zero _)⟩
  | 0, d' + 1, h, h', e => by
    have b := lv_bd h'.p
    have hl := h' d' (by omega)
    unfold ltr at hl
    rw [lv, lv] at e; omega
  | d + 1, 0, h, h', e => by
    have b := lv_bd h.p
    have hl := h d (by omega)
    unfold ltr at hl
    rw [lv, lv] at e; omega
  | d + 1, d' + 1, h, h', e => by
    have hl := h d (by omega)
    have hl' := h' d' (by omega)
    unfold ltr at hl hl'
    rw [lv, lv] at e
    obtain ⟨e1, e2⟩ := lv_inj h.p h'.p (show lv c s d = lv c' s' d' by omega)
    subst e1
    refine ⟨rfl, fun q hq => ?_⟩
    by_cases hh : q = d
    · subst hh; omega
    · exact e2 q (by omega)
theorem wv_cg {c c' : Nat → Int} {s s' : Nat} : ∀ {d : Nat}, (∀ q, q < d → c (s + q) = c' (s' + q)) → wv c s d = wv c' s' d
  | 0, _ => rfl
  | d + 1, h => by rw [wv, wv, wv_cg (fun q hq => h q (by omega)), h d (by omega)]
theorem lv_cg {c c' : Nat → Int} {s s' : Nat} : ∀ {d : Nat}, (∀ q, q < d → c (s + q) = c' (s' + q)) → lv c s d = lv c' s' d
  | 0, _ => rfl
  | d + 1, h => by rw [lv, lv, lv_cg (fun q hq => h q (by omega)), h d (by omega)]
/-- one word's two numbers -/
def WN (x y : Int) : Prop := ∃ (c : Nat → Int) (s d : Nat), d ≤ 7 ∧ lts c s d ∧ x = wv c s d ∧ y = lv c s d
theorem WN.eq {x y x' y' : Int} (h : WN x y) (h' : WN x' y') : x = x' ↔ y = y' := by
  obtain ⟨c, s, d, h7, hl, rfl, rfl⟩ := h
  obtain ⟨c', s', d', h7', hl', rfl, rfl⟩ := h'
  constructor
  · intro e
    obtain ⟨e1, e2⟩ := wv_inj hl hl' e
    subst e1; exact lv_cg e2
  · intro e
    obtain ⟨e1, e2⟩ := lv_inj hl hl' e
    subst e1; exact wv_cg e2
theorem pw7 {b : Int} {d : Nat} (hb : 1 ≤ b) (h : d ≤ 7) : b ^ d ≤ b ^ 7 := by
  have key : ∀ k, b ^ d ≤ b ^ (d + k) := by
    intro k
    induction k with
    | zero => exact Int.le_refl _
    | succ k ih =>
      have hp : 0 ≤ b ^ (d + k) := Int.pow_nonneg (by omega)
      have : b ^ (d + (k + 1)) = b ^ (d + k) * b := by rw [← Nat.add_assoc, Int.pow_succ]
      rw [this]
      have : b ^ (d + k) * 1 ≤ b ^ (d + k) * b := Int.mul_le_mul_of_nonneg_left hb hp
      omega
  have := key (7 - d)
  have e : d + (7 - d) = 7 := by omega
  rw [e] at this; exact this
theorem WN.bx {x y : Int} (h : WN x y) : 0 ≤ x ∧ x < 72057594037927936 := by
  obtain ⟨c, s, d, h7, hl, rfl, rfl⟩ := h
  have := wv_bd hl
  have h2 := pw7 (b := 256) (by omega) h7
  have e : (256 : Int) ^ 7 = 72057594037927936 := by decide
  rw [e] at h2; omega
theorem WN.bz {x y : Int} (h : WN x y) : 0 ≤ y ∧ y < 72057594037927936 := by
  obtain ⟨c, s, d, h7, hl, rfl, rfl⟩ := h
  have := lv_bd hl
  have h2 := pw7 (b := 32) (by omega) h7
  have e : (32 : Int) ^ 7 = 34359738368 := by decide
  rw [e] at h2; omega
/-! the words that are kept -/
def kcl : List Int := [115, 108, 111, 112, 101, 32, 32, 104, 97, 108, 116, 32, 32, 32, 108, 111, 111, 112, 32, 32, 32, 119, 97, 103, 111, 110, 32, 32, 97, 100, 100, 115, 32, 32, 32, 101, 110, 103, 105, 110, 101, 32, 114, 117, 98, 32, 32, 32, 32, 115, 97, 110, 100, 32, 32, 32, 119, 101, 97, 114, 32, 32, 32, 119, 97, 108, 107, 32, 32, 32, 116, 114, 97, 105, 110, 32, 32, 103, 111, 32, 32, 32, 32, 32, 104, 101, 108, 112, 32, 32, 32, 111, 102, 102, 32, 32, 32, 32, 99, 117, 116, 32, 32, 32, 32, 114, 101, 115, 116, 32, 32, 32]
def kc (q : Nat) : Int := kcl.getD q 0
def kln (k : Nat) : Nat := [5, 4, 4, 5, 4, 6, 3, 4, 4, 4, 5, 2, 4, 3, 3, 4].getD k 0
def rsv (k : Nat) : Int := wv kc (7 * k) (kln k)
theorem kc_f : ∀ k : Fin 16, ∀ i : Fin 7, (i.1 < kln k.1 → 97 ≤ kc (7 * k.1 + i.1) ∧ kc (7 * k.1 + i.1) ≤ 122) ∧ (kln k.1 ≤ i.1 → kc (7 * k.1 + i.1) = 32) := by decide
theorem kln_f : ∀ k : Fin 16, 2 ≤ kln k.1 ∧ kln k.1 ≤ 6 := by decide
theorem kwc_f : ∀ q : Fin 112, kwc (eI q.1) = eI (kc q.1) := by decide
theorem rsv_f : ∀ a b : Fin 16, rsv a.1 = rsv b.1 → a.1 = b.1 := by decide
theorem rsv_i {a b : Nat} (ha : a < 16) (hb : b < 16) (h : rsv a = rsv b) : a = b := rsv_f ⟨a, ha⟩ ⟨b, hb⟩ h
theorem rsv_l {k : Nat} (hk : k < 16) : lts kc (7 * k) (kln k) := fun q hq => by
  have h7 := (kln_f ⟨k, hk⟩).2
  exact (kc_f ⟨k, hk⟩ ⟨q, by simp at h7; omega⟩).1 hq
theorem rsv_bd {k : Nat} (hk : k < 16) : 0 ≤ rsv k ∧ rsv k < 72057594037927936 :=
  WN.bx ⟨kc, 7 * k, kln k, by have := (kln_f ⟨k, hk⟩).2; simp at this; omega, rsv_l hk, rfl, rfl⟩
theorem rsv_sp {c : Nat → Int} {s d k : Nat} (hl : lts c s d) (h7 : d ≤ 7) (hk : k < 16) : wv c s d = rsv k ↔ ∀ i, i < 7 → (if i < d then c (s + i) else 32) = kc (7 * k + i) := by
  have hk7 := (kln_f ⟨k, hk⟩).2
  simp at hk7
  constructor
  · intro e i hi
    obtain ⟨e1, e2⟩ := wv_inj hl (rsv_l hk) e
    by_cases h : i < d
    · rw [if_pos h]; exact e2 i h
    · rw [if_neg h]; exact ((kc_f ⟨k, hk⟩ ⟨i, hi⟩).2 (by simp; omega)).symm
  · intro h
    have ed : d = kln k := by
      rcases Nat.lt_trichotomy d (kln k) with h1 | h1 | h1
      · have a := h d (by omega)
        rw [if_neg (Nat.lt_irrefl _)] at a
        have b := (kc_f ⟨k, hk⟩ ⟨d, by omega⟩).1 h1
        simp at b; omega
      · exact h1
      · have a := h (kln k) (by omega)
        rw [if_pos h1] at a
        have b := (kc_f ⟨k, hk⟩ ⟨kln k, by omega⟩).2 (Nat.le_refl _)
        have g := hl (kln k) h1
        unfold ltr at g
        simp at b; omega
    subst ed
    refine wv_cg (fun q hq => ?_)
    have := h q (by omega)
    rw [if_pos hq] at this; exact this
/-! a text: its bytes, how many, and how many may be -/
abbrev TXX := (Nat → Int) × Nat × Nat
theorem hid {α : Type} (a : α) : ∃ x, x = a := ⟨a, rfl⟩
/-- the same, and not to be looked into -/
noncomputable def hidF {α : Type} (a : α) : α := Classical.choose (hid a)
theorem hidF_eq {α : Type} (a : α) : hidF a = a := Classical.choose_spec (hid a)
theorem hidF_2 {α β γ : Type} (a : α → β → γ) (x : α) (y : β) : hidF a x y = a x y := by rw [hidF_eq]
noncomputable def oK : TXX → Nat → Nat := hidF (fun e p => tkd e.1 e.2.1 (min e.2.1 e.2.2) p)
noncomputable def oS : TXX → Nat → Nat := hidF (fun e p => skp e.1 (min e.2.1 e.2.2) p)
noncomputable def oP : TXX → Nat → Nat := hidF (fun e p => min (oS e p) (min e.2.1 e.2.2))
noncomputable def oN : TXX → Nat → Nat := hidF (fun e p => rnL e.1 e.2.1 (oS e p))
noncomputable def oV : TXX → Nat → Int := hidF (fun e p => nv e.1 (oS e p) (oN e p))
noncomputable def oW : TXX → Nat → Int := hidF (fun e p => wv e.1 (oS e p) (oN e p))
noncomputable def oL : TXX → Nat → Int := hidF (fun e p => lv e.1 (oS e p) (oN e p))
noncomputable def oX : TXX → Nat → Nat := hidF (fun e p => if oK e p = 1 ∨ oK e p = 2 then oS e p + oN e p else oS e p + 1)
theorem oK_d (e : TXX) (p : Nat) : oK e p = tkd e.1 e.2.1 (min e.2.1 e.2.2) p := hidF_2 _ e p
theorem oS_d (e : TXX) (p : Nat) : oS e p = skp e.1 (min e.2.1 e.2.2) p := hidF_2 _ e p
theorem oP_d (e : TXX) (p : Nat) : oP e p = min (oS e p) (min e.2.1 e.2.2) := hidF_2 _ e p
theorem oN_d (e : TXX) (p : Nat) : oN e p = rnL e.1 e.2.1 (oS e p) := hidF_2 _ e p
theorem oV_d (e : TXX) (p : Nat) : oV e p = nv e.1 (oS e p) (oN e p) := hidF_2 _ e p
theorem oW_d (e : TXX) (p : Nat) : oW e p = wv e.1 (oS e p) (oN e p) := hidF_2 _ e p
theorem oL_d (e : TXX) (p : Nat) : oL e p = lv e.1 (oS e p) (oN e p) := hidF_2 _ e p
theorem oX_d (e : TXX) (p : Nat) : oX e p = if oK e p = 1 ∨ oK e p = 2 then oS e p + oN e p else oS e p + 1 := hidF_2 _ e p
abbrev TK (e : TXX) : Prop :=
  (TXT e.1 e.2.1) ∧
  (e.2.2 ≤ 940)
theorem TK.t {e : TXX} (h : TK e) : TXT e.1 e.2.1 := h.1
theorem TK.l {e : TXX} (h : TK e) : e.2.2 ≤ 940 := h.2
theorem tkd_le (c : Nat → Int) (n b p : Nat) : tkd c n b p ≤ 5 := by
  unfold tkd
  split
  · omega
  split
  · split
    · omega
    split <;> omega
  split
  · omega
  split <;> omega
theorem oK_le (e : TXX) (p : Nat) : oK e p ≤ 5 := by rw [oK_d]; exact tkd_le _ _ _ _
theorem oK_lt {e : TXX} {p : Nat} (h : oK e p ≠ 0) : oS e p < min e.2.1 e.2.2 := by
  rw [oK_d] at h
  unfold tkd at h
  by_cases hb : min e.2.1 e.2.2 ≤ skp e.1 (min e.2.1 e.2.2) p
  · rw [if_pos hb] at h; exact absurd rfl h
  · rw [oS_d]; omega
theorem oK_0 {e : TXX} {p : Nat} (h : oK e p = 0) : min e.2.1 e.2.2 ≤ oS e p := by
  rw [oK_d] at h
  unfold tkd at h
  by_cases hb : min e.2.1 e.2.2 ≤ skp e.1 (min e.2.1 e.2.2) p
  · rw [oS_d]; exact hb
  · rw [if_neg hb] at h
    split at h
    · split at h
      · omega
      split at h <;> omega
    split at h
    · omega
    split at h <;> omega
theorem oK_1 {e : TXX} {p : Nat} (h : oK e p = 1) : lts e.1 (oS e p) (oN e p) ∧ oN e p ≤ 7 := by
  rw [oK_d] at h
  unfold tkd at h
  split at h
  · omega
  split at h
  · split at h
    · rename_i a b hh; rw [oN_d, oS_d]; exact hh
    split at h <;> omega
  split at h
  · omega
  split at h <;> omega
theorem oK_2 {e : TXX} {p : Nat} (h : oK e p = 2) : (∀ d, d < oN e p → dgt (e.1 (oS e p + d))) ∧ oN e p ≤ 3 := by
  rw [oK_d] at h
  unfold tkd at h
  split at h
  · omega
  split at h
  · split at h
    · omega
    split at h
    · rename_i a b h2 hh; rw [oN_d, oS_d]; exact hh
    · omega
  split at h
  · omega
  split at h <;> omega
theorem oV_bd {e : TXX} {p : Nat} (h : oK e p = 2) : 0 ≤ oV e p ∧ oV e p ≤ 999 := by
  obtain ⟨h1, h2⟩ := oK_2 h
  rw [oV_d]
  generalize oN e p = d at *
  generalize oS e p = s at *
  have k : ∀ q, q < d → 48 ≤ e.1 (s + q) ∧ e.1 (s + q) ≤ 57 := fun q hq => h1 q hq
  have hd : d = 0 ∨ d = 1 ∨ d = 2 ∨ d = 3 := by omega
  rcases hd with rfl | rfl | rfl | rfl
  · simp [nv]
  · have := k 0 (by omega); simp only [nv]; omega
  · have := k 0 (by omega); have := k 1 (by omega); simp only [nv]; omega
  · have := k 0 (by omega); have := k 1 (by omega); have := k 2 (by omega); simp only [nv]; omega
theorem oW_n {e : TXX} {p : Nat} (h : oK e p = 1) : WN (oW e p) (oL e p) := ⟨e.1, oS e p, oN e p, (oK_1 h).2, (oK_1 h).1, oW_d e p, oL_d e p⟩
theorem oX_le {e : TXX} {p : Nat} (h : oK e p ≠ 0) : oX e p ≤ e.2.1 := by
  have h1 := oK_lt h
  have h2 := rnL_bd e.1 (n := e.2.1) (s := oS e p)
  rw [oX_d, oN_d]
  split <;> omega
theorem oP_le (e : TXX) (p : Nat) : oP e p ≤ e.2.1 := by rw [oP_d]; omega
theorem oP_s {e : TXX} {p : Nat} (h : oK e p ≠ 0) : oP e p = oS e p := by have := oK_lt h; rw [oP_d]; omega
/-- which of the words that are kept; -1: none -/
noncomputable def kwd : TXX → Nat → Int := hidF (fun e p => if oK e p = 1 ∧ lf (fun k => oW e p = rsv k) 16 < 16 then ((lf (fun k => oW e p = rsv k) 16 : Nat) : Int) else -1)
theorem kwd_d (e : TXX) (p : Nat) : kwd e p = if oK e p = 1 ∧ lf (fun k => oW e p = rsv k) 16 < 16 then ((lf (fun k => oW e p = rsv k) 16 : Nat) : Int) else -1 := hidF_2 _ e p
theorem kwd_k {e : TXX} {p k : Nat} (hk : k < 16) : kwd e p = k ↔ oK e p = 1 ∧ oW e p = rsv k := by
  obtain ⟨l1, l2, l3⟩ := lf_sp (fun k => oW e p = rsv k) 16
  rw [kwd_d]
  constructor
  · intro h
    split at h
    · rename_i hh
      refine ⟨hh.1, ?_⟩
      have := l3 hh.2
      have e1 : lf (fun k => oW e p = rsv k) 16 = k := by omega
      rw [e1] at this; exact this
    · omega
  · rintro ⟨h1, h2⟩
    have hlt : lf (fun k => oW e p = rsv k) 16 < 16 := lf_ex.mpr ⟨k, hk, h2⟩
    have := l3 hlt
    rw [if_pos ⟨h1, hlt⟩]
    generalize lf (fun k => oW e p = rsv k) 16 = m at *
    have := rsv_i hlt hk (this.symm.trans h2)
    omega
theorem kwd_n {e : TXX} {p : Nat} : kwd e p = -1 ↔ ¬ (oK e p = 1 ∧ ∃ k, k < 16 ∧ oW e p = rsv k) := by
  rw [kwd_d]
  split
  · rename_i h; rw [lf_ex] at h; exact ⟨fun h1 => by omega, fun h1 => absurd h h1⟩
  · rename_i h; rw [lf_ex] at h; exact ⟨fun _ => h, fun _ => rfl⟩
theorem kwd_bd (e : TXX) (p : Nat) : -1 ≤ kwd e p ∧ kwd e p ≤ 15 := by rw [kwd_d]; split <;> omega
def nam (e : TXX) (p : Nat) : Prop := oK e p = 1 ∧ kwd e p = -1
theorem nam_w {e : TXX} {p : Nat} : nam e p ↔ oK e p = 1 ∧ ∀ k, k < 16 → oW e p ≠ rsv k := by
  unfold nam
  rw [kwd_n]
  exact ⟨fun h => ⟨h.1, fun k hk he => h.2 ⟨h.1, k, hk, he⟩⟩, fun h => ⟨h.1, fun ⟨_, k, hk, he⟩ => h.2 k hk he⟩⟩
