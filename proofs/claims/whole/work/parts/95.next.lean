/-! the reference: the next token -/
theorem eJ_small {x : Int} (h0 : 0 ≤ x) (h1 : x < 256) (k : Nat) (hk : 8 ≤ k) : (eJ x).toBitVec.getLsbD k = false := by
  have e : (eJ x).toBitVec = BitVec.ofInt 64 x := rfl
  rw [e]
  have e2 : BitVec.ofInt 64 x = BitVec.ofNat 64 x.toNat := by
    apply BitVec.eq_of_toNat_eq
    rw [BitVec.toNat_ofInt, BitVec.toNat_ofNat]
    omega
  rw [e2]
  show (BitVec.ofNat 64 x.toNat).toNat.testBit k = false
  apply Nat.testBit_lt_two_pow
  rw [BitVec.toNat_ofNat]
  have : 2 ^ 8 ≤ 2 ^ k := Nat.pow_le_pow_right (by omega) hk
  omega
theorem shl8 {a x : Int} (h0 : 0 ≤ x) (h1 : x < 256) : (eJ a <<< ((8 : Int32).toInt64 &&& 63)) ||| eJ x = eJ (256 * a + x) := by
  have e1 : (eJ a <<< ((8 : Int32).toInt64 &&& 63)).toBitVec = (eJ a).toBitVec <<< 8 := by
    rw [Int64.toBitVec_shiftLeft]
    rfl
  have hand : ((eJ a).toBitVec <<< 8) &&& (eJ x).toBitVec = 0#64 := by
    ext i hi
    rw [BitVec.getElem_and]
    by_cases h8 : i < 8
    · simp [h8]
    · have := eJ_small h0 h1 i (by omega)
      rw [BitVec.getLsbD_eq_getElem hi] at this
      rw [this]; simp
  have e2 : eJ (256 * a + x) = eJ a * eJ 256 + eJ x := by rw [eJ_mul, eJ_add, Int.mul_comm]
  apply Int64.toBitVec_inj.mp
  rw [Int64.toBitVec_or, e1, e2, Int64.toBitVec_add, Int64.toBitVec_mul, ← BitVec.add_eq_or_of_and_eq_zero _ _ hand]
  congr 1
  rw [BitVec.shiftLeft_eq_mul_twoPow]
  rfl
abbrev RTk (c : Nat → Int) (n L p : Nat) (i : F32) (j : Nat → Int64) : Prop :=
  (i 12 = eI ((min (skp c (min n L) p) (min n L) : Nat) : Int)) ∧
  (tkd c n (min n L) p = 0 → i 11 = eI (if n ≤ L then 0 else 4)) ∧
  (tkd c n (min n L) p = 1 → i 11 = 1 ∧ i 4 = eI ((skp c (min n L) p + rnL c n (skp c (min n L) p) : Nat) : Int) ∧ j 17 = eJ (wv c (skp c (min n L) p) (rnL c n (skp c (min n L) p)))) ∧
  (tkd c n (min n L) p = 2 → i 11 = 2 ∧ i 4 = eI ((skp c (min n L) p + rnL c n (skp c (min n L) p) : Nat) : Int) ∧ i 14 = eI (nv c (skp c (min n L) p) (rnL c n (skp c (min n L) p)))) ∧
  (tkd c n (min n L) p = 3 → i 11 = 3 ∧ i 14 = 59 ∧ i 4 = eI ((skp c (min n L) p + 1 : Nat) : Int)) ∧
  (tkd c n (min n L) p = 5 → i 11 = 3 ∧ i 14 = 45 ∧ i 4 = eI ((skp c (min n L) p + 1 : Nat) : Int)) ∧
  (tkd c n (min n L) p = 4 → i 11 = 4)
theorem RTk.pl {c : Nat → Int} {n L p : Nat} {i : F32} {j : Nat → Int64} (h : RTk c n L p i j) : i 12 = eI ((min (skp c (min n L) p) (min n L) : Nat) : Int) := h.1
theorem RTk.e0 {c : Nat → Int} {n L p : Nat} {i : F32} {j : Nat → Int64} (h : RTk c n L p i j) : tkd c n (min n L) p = 0 → i 11 = eI (if n ≤ L then 0 else 4) := h.2.1
theorem RTk.e1 {c : Nat → Int} {n L p : Nat} {i : F32} {j : Nat → Int64} (h : RTk c n L p i j) : tkd c n (min n L) p = 1 → i 11 = 1 ∧ i 4 = eI ((skp c (min n L) p + rnL c n (skp c (min n L) p) : Nat) : Int) ∧ j 17 = eJ (wv c (skp c (min n L) p) (rnL c n (skp c (min n L) p))) := h.2.2.1
theorem RTk.e2 {c : Nat → Int} {n L p : Nat} {i : F32} {j : Nat → Int64} (h : RTk c n L p i j) : tkd c n (min n L) p = 2 → i 11 = 2 ∧ i 4 = eI ((skp c (min n L) p + rnL c n (skp c (min n L) p) : Nat) : Int) ∧ i 14 = eI (nv c (skp c (min n L) p) (rnL c n (skp c (min n L) p))) := h.2.2.2.1
theorem RTk.e3 {c : Nat → Int} {n L p : Nat} {i : F32} {j : Nat → Int64} (h : RTk c n L p i j) : tkd c n (min n L) p = 3 → i 11 = 3 ∧ i 14 = 59 ∧ i 4 = eI ((skp c (min n L) p + 1 : Nat) : Int) := h.2.2.2.2.1
theorem RTk.e5 {c : Nat → Int} {n L p : Nat} {i : F32} {j : Nat → Int64} (h : RTk c n L p i j) : tkd c n (min n L) p = 5 → i 11 = 3 ∧ i 14 = 45 ∧ i 4 = eI ((skp c (min n L) p + 1 : Nat) : Int) := h.2.2.2.2.2.1
theorem RTk.e4 {c : Nat → Int} {n L p : Nat} {i : F32} {j : Nat → Int64} (h : RTk c n L p i j) : tkd c n (min n L) p = 4 → i 11 = 4 := h.2.2.2.2.2.2
theorem M_run {c : Nat → Int} {n L p : Nat} (X : TXT c n) {i t : F32} {j : Nat → Int64} (ht : ∀ q, q < n → t q &&& 255 = eI (c q)) (h3 : i 3 = eI n) (h12 : i 12 = eI (skp c (min n L) p)) (h13 : i 13 = 0) (h4 : i 4 = eI (skp c (min n L) p)) (hs : skp c (min n L) p < min n L) (hal : ltr (c (skp c (min n L) p)) ∨ dgt (c (skp c (min n L) p))) {Q : F32 → (Nat → Int64) → Prop} (hq : ∀ i' j', (∀ q, q ≠ 4 → q ≠ 11 → q ≠ 13 → q ≠ 14 → i' q = i q) → RTk c n L p i' j' → Q i' j') : j_LongTrainModel_next_146 i j t (eI (c (skp c (min n L) p))) Q := by
  have hn := X.n
  generalize hS : skp c (min n L) p = s at *
  have hc0 := X.b s (by omega)
  have hnotend : ¬ min n L ≤ s := by omega
  have hmin : min s (min n L) = s := by omega
  unfold j_LongTrainModel_next_146
  have body : ∀ (z : Int32) (sm' : Prop), (sm' ↔ ltr (c s)) → ((z = 1 ∧ sm') ∨ (z = 0 ∧ ¬ sm')) → ∃ n_37, lp_LongTrainModel_next_163 t z (fun x3 i' j' => (x3 = 0 → Q (upd i' 11 4) j') ∧ (¬ x3 = 0 → (z = 0 → (i' 13 ≤ 3 → (z = 0 → Q (upd i' 11 2) j') ∧ (¬ z = 0 → Q (upd i' 11 1) j')) ∧ (¬ i' 13 ≤ 3 → Q (upd i' 11 4) j')) ∧ (¬ z = 0 → (i' 13 ≤ 7 → (z = 0 → Q (upd i' 11 2) j') ∧ (¬ z = 0 → Q (upd i' 11 1) j')) ∧ (¬ i' 13 ≤ 7 → Q (upd i' 11 4) j')))) n_37 1 (upd i 14 0) (vp_updL j 17 0) := fun z sm' hsm hz => by
    refine lg_LongTrainModel_next_163 (G := Nat) (fun d x3 i' j' => s + d ≤ n ∧ (∀ q, q < d → ltr (c (s + q)) ∨ dgt (c (s + q))) ∧ (∀ q, q ≠ 4 → q ≠ 11 → q ≠ 13 → q ≠ 14 → i' q = i q) ∧ i' 4 = eI ((s + d : Nat) : Int) ∧ i' 13 = eI d ∧ i' 14 = eI (nv c s (min d 3)) ∧ j' 17 = eJ (wv c s (min d 7)) ∧ ((x3 = 1 ∧ ∀ q, q < d → (ltr (c (s + q)) ↔ sm')) ∨ (x3 = 0 ∧ ¬ ∀ q, q < d → (ltr (c (s + q)) ↔ sm')))) (fun d => n - s - d) ?_ 0 ⟨by omega, fun q hq => absurd hq (Nat.not_lt_zero _), fun q a b e f => upd_n f, by rw [upd_n (by omega), h4]; rfl, by rw [upd_n (by omega), h13]; rfl, by rw [upd_s]; rfl, by rw [pk_uLs]; rfl, Or.inl ⟨rfl, fun q hq => absurd hq (Nat.not_lt_zero _)⟩⟩
    rintro kr d x3 i' j' ⟨hd, hall, hi, i4, i13, i14, j17, hx3⟩ hst
    have i3 : i' 3 = eI n := by rw [hi 3 (by omega) (by omega) (by omega) (by omega)]; exact h3
    have i12 : i' 12 = eI s := by rw [hi 12 (by omega) (by omega) (by omega) (by omega)]; exact h12
    have keep : ∀ v : Int32, ∀ q, q ≠ 4 → q ≠ 11 → q ≠ 13 → q ≠ 14 → upd i' 11 v q = i q := fun v q a b e f => by rw [upd_n b]; exact hi q a b e f
    have fin : (s + d < n → ¬ (ltr (c (s + d)) ∨ dgt (c (s + d)))) → (x3 = 0 → Q (upd i' 11 4) j') ∧ (¬ x3 = 0 → (z = 0 → (i' 13 ≤ 3 → (z = 0 → Q (upd i' 11 2) j') ∧ (¬ z = 0 → Q (upd i' 11 1) j')) ∧ (¬ i' 13 ≤ 3 → Q (upd i' 11 4) j')) ∧ (¬ z = 0 → (i' 13 ≤ 7 → (z = 0 → Q (upd i' 11 2) j') ∧ (¬ z = 0 → Q (upd i' 11 1) j')) ∧ (¬ i' 13 ≤ 7 → Q (upd i' 11 4) j'))) := fun hstop => by
      have hLn : rnL c n s = d := lf_eq (by omega) (fun q hq hno => hno (hall q hq)) (fun h => hstop (by omega))
      have hd1 : 1 ≤ d := by
        rcases Nat.eq_zero_or_pos d with h0 | h0
        · subst h0; exact absurd hal (hstop (by omega))
        · exact h0
      have hk1 : (∀ q, q < d → ltr (c (s + q))) ∧ d ≤ 7 → tkd c n (min n L) p = 1 := fun h => by
        unfold tkd; rw [hS, if_neg hnotend, if_pos hal, hLn, if_pos h]
      have hk2 : ¬ ((∀ q, q < d → ltr (c (s + q))) ∧ d ≤ 7) → ((∀ q, q < d → dgt (c (s + q))) ∧ d ≤ 3) → tkd c n (min n L) p = 2 := fun h h' => by
        unfold tkd; rw [hS, if_neg hnotend, if_pos hal, hLn, if_neg h, if_pos h']
      have hk4 : ¬ ((∀ q, q < d → ltr (c (s + q))) ∧ d ≤ 7) → ¬ ((∀ q, q < d → dgt (c (s + q))) ∧ d ≤ 3) → tkd c n (min n L) p = 4 := fun h h' => by
        unfold tkd; rw [hS, if_neg hnotend, if_pos hal, hLn, if_neg h, if_neg h']
      have oth : ¬ ((∀ q, q < d → ltr (c (s + q))) ∧ d ≤ 7) → ¬ ((∀ q, q < d → dgt (c (s + q))) ∧ d ≤ 3) → Q (upd i' 11 4) j' := fun h h' => by
        have e := hk4 h h'
        exact hq _ _ (keep _) ⟨by rw [upd_n (by omega), hS, hmin]; exact i12, fun h => by omega, fun h => by omega, fun h => by omega, fun h => by omega, fun h => by omega, fun _ => upd_s⟩
      have l0 : ∀ (h : ∀ q, q < d → ltr (c (s + q))), ltr (c s) := fun h => by have := h 0 (by omega); simpa using this
      have d0 : ∀ (h : ∀ q, q < d → dgt (c (s + q))), dgt (c s) := fun h => by have := h 0 (by omega); simpa using this
      rcases hx3 with ⟨rfl, heq⟩ | ⟨rfl, hne⟩
      · refine ⟨fun h => absurd h one_ne, fun _ => ?_⟩
        rw [i13]
        rcases hz with ⟨rfl, hsm1⟩ | ⟨rfl, hsm0⟩
        · refine ⟨fun h => absurd h one_ne, fun _ => ?_⟩
          have hlt : ∀ q, q < d → ltr (c (s + q)) := fun q hq => (heq q hq).mpr hsm1
          refine q_le (b := 7) (by (first | exact B31_s (by omega) (by omega) | exact B31_of _ | (constructor <;> omega))) (by (first | exact B31_s (by omega) (by omega) | exact B31_of _ | (constructor <;> omega))) (fun h7 => ?_) (fun h7 => ?_)
          · refine ⟨fun h => absurd h one_ne, fun _ => ?_⟩
            have e := hk1 ⟨hlt, by omega⟩
            have em : min d 7 = d := by omega
            rw [em] at j17
            exact hq _ _ (keep _) ⟨by rw [upd_n (by omega), hS, hmin]; exact i12, fun h => by omega, fun _ => ⟨upd_s, by rw [upd_n (by omega), hS, hLn]; exact i4, by rw [hS, hLn]; exact j17⟩, fun h => by omega, fun h => by omega, fun h => by omega, fun h => by omega⟩
          · exact oth (fun h => by omega) (fun h => nodual (l0 hlt) (d0 h.1))
        · refine ⟨fun _ => ?_, fun h => absurd rfl h⟩
          have hdg : ∀ q, q < d → dgt (c (s + q)) := fun q hq => (hall q hq).resolve_left (fun hl => hsm0 ((heq q hq).mp hl))
          have hnl : ¬ ((∀ q, q < d → ltr (c (s + q))) ∧ d ≤ 7) := fun h => nodual (l0 h.1) (d0 hdg)
          refine q_le (b := 3) (by (first | exact B31_s (by omega) (by omega) | exact B31_of _ | (constructor <;> omega))) (by (first | exact B31_s (by omega) (by omega) | exact B31_of _ | (constructor <;> omega))) (fun h7 => ?_) (fun h7 => oth hnl (fun h => by omega))
          refine ⟨fun _ => ?_, fun h => absurd rfl h⟩
          have e := hk2 hnl ⟨hdg, by omega⟩
          have em : min d 3 = d := by omega
          rw [em] at i14
          exact hq _ _ (keep _) ⟨by rw [upd_n (by omega), hS, hmin]; exact i12, fun h => by omega, fun h => by omega, fun _ => ⟨upd_s, by rw [upd_n (by omega), hS, hLn]; exact i4, by rw [upd_n (by omega), hS, hLn]; exact i14⟩, fun h => by omega, fun h => by omega, fun h => by omega⟩
      · refine ⟨fun _ => oth (fun h => hne (fun q hq => ⟨fun _ => hsm.mpr (l0 h.1), fun _ => h.1 q hq⟩)) (fun h => hne (fun q hq => ⟨fun hl => absurd (h.1 q hq) (fun hd => nodual hl hd), fun hs1 => absurd (d0 h.1) (fun hd => nodual (hsm.mp hs1) hd)⟩)), fun h => absurd rfl h⟩
    have hcd : s + d < n → 0 ≤ c (s + d) ∧ c (s + d) ≤ 255 := fun h => X.b _ h
    have hpk : B31 (if s + d < n then c (s + d) else -1) := by
      split
      · rename_i h; have := hcd h; (first | exact B31_s (by omega) (by omega) | exact B31_of _ | (constructor <;> omega))
      · (first | exact B31_s (by omega) (by omega) | exact B31_of _ | (constructor <;> omega))
    have more : s + d < n → (ltr (c (s + d)) ∨ dgt (c (s + d))) → j_LongTrainModel_next_183 i' j' t z x3 kr := fun hlt hor => by
      have hc := hcd hlt
      have hall' : ∀ q, q < d + 1 → ltr (c (s + q)) ∨ dgt (c (s + q)) := fun q hq => by
        by_cases e : q = d
        · subst e; exact hor
        · exact hall q (by omega)
      have last : ∀ (y : Int32) (j2 : Nat → Int64), j2 17 = eJ (wv c s (min (d + 1) 7)) → ((y = 1 ∧ ∀ q, q < d + 1 → (ltr (c (s + q)) ↔ sm')) ∨ (y = 0 ∧ ¬ ∀ q, q < d + 1 → (ltr (c (s + q)) ↔ sm'))) → j_LongTrainModel_next_230 i' j2 t y kr := fun y j2 hj2 hy => by
        unfold j_LongTrainModel_next_230
        rw [i13]
        refine q_le (a := 3) (by (first | exact B31_s (by omega) (by omega) | exact B31_of _ | (constructor <;> omega))) (by (first | exact B31_s (by omega) (by omega) | exact B31_of _ | (constructor <;> omega))) (fun h5 => ?_) (fun h5 => ?_)
        · have em : min (d + 1) 3 = min d 3 := by omega
          refine hst (d + 1) _ _ _ (by omega) ⟨by omega, hall', fun q a b e f => by rw [upd_n a, upd_n e]; exact hi q a b e f, by rw [upd_s, upd_n (by omega), i4]; (try simp only [eI_lit, eI_neg, eI_add, eI_sub, eI_mul, eF_ap, upd_eF]); congr 1, by rw [upd_n (by omega), upd_s]; (try simp only [eI_lit, eI_neg, eI_add, eI_sub, eI_mul, eF_ap, upd_eF]); congr 1, by rw [upd_n (by omega), upd_n (by omega), em]; exact i14, hj2, hy⟩
        · refine M_peek X ht i3 i4 (by omega) ?_
          rw [if_pos hlt, i14]
          have em : min d 3 = d := by omega
          have em2 : min (d + 1) 3 = d + 1 := by omega
          refine hst (d + 1) _ _ _ (by omega) ⟨by omega, hall', fun q a b e f => by rw [upd_n a, upd_n e, upd_n f]; exact hi q a b e f, by rw [upd_s, upd_n (by omega), upd_n (by omega), i4]; (try simp only [eI_lit, eI_neg, eI_add, eI_sub, eI_mul, eF_ap, upd_eF]); congr 1, by rw [upd_n (by omega), upd_s, upd_n (by omega), i13]; (try simp only [eI_lit, eI_neg, eI_add, eI_sub, eI_mul, eF_ap, upd_eF]); congr 1, ?_, hj2, hy⟩
          rw [upd_n (by omega), upd_n (by omega), upd_s, em, em2, nv]; (try simp only [eI_lit, eI_neg, eI_add, eI_sub, eI_mul, eF_ap, upd_eF])
      have mid : ∀ y : Int32, ((y = 1 ∧ ∀ q, q < d + 1 → (ltr (c (s + q)) ↔ sm')) ∨ (y = 0 ∧ ¬ ∀ q, q < d + 1 → (ltr (c (s + q)) ↔ sm'))) → j_LongTrainModel_next_203 i' j' t y kr := fun y hy => by
        unfold j_LongTrainModel_next_203
        rw [i13]
        refine q_le (a := 7) (by (first | exact B31_s (by omega) (by omega) | exact B31_of _ | (constructor <;> omega))) (by (first | exact B31_s (by omega) (by omega) | exact B31_of _ | (constructor <;> omega))) (fun h5 => ?_) (fun h5 => ?_)
        · have em : min (d + 1) 7 = min d 7 := by omega
          exact last y j' (by rw [em]; exact j17) hy
        · refine M_peek X ht i3 i4 (by omega) ?_
          rw [if_pos hlt, j17, eI_64 (by (first | exact B31_s (by omega) (by omega) | exact B31_of _ | (constructor <;> omega))), shl8 (by omega) (by omega)]
          have em : min d 7 = d := by omega
          have em2 : min (d + 1) 7 = d + 1 := by omega
          refine last y _ ?_ hy
          rw [pk_uLs, em, em2, wv]
      unfold j_LongTrainModel_next_183 j_LongTrainModel_next_202
      rcases hx3 with ⟨rfl, heq⟩ | ⟨rfl, hne⟩
      · refine ⟨fun h => absurd h one_ne, fun _ => ?_⟩
        refine M_peek X ht i3 i4 (by omega) ?_
        rw [if_pos hlt]
        refine M_isSmall (by (first | exact B31_s (by omega) (by omega) | exact B31_of _ | (constructor <;> omega))) (fun hl => ?_) (fun hl => ?_)
        · rcases hz with ⟨rfl, hsm1⟩ | ⟨rfl, hsm0⟩
          · refine ⟨fun h => absurd rfl h, fun _ => mid 1 (Or.inl ⟨rfl, fun q hq => ?_⟩)⟩
            by_cases e : q = d
            · subst e; exact ⟨fun _ => hsm1, fun _ => hl⟩
            · exact heq q (by omega)
          · refine ⟨fun _ => mid 0 (Or.inr ⟨rfl, fun h => hsm0 ((h d (by omega)).mp hl)⟩), fun h => absurd h one_ne⟩
        · rcases hz with ⟨rfl, hsm1⟩ | ⟨rfl, hsm0⟩
          · refine ⟨fun _ => mid 0 (Or.inr ⟨rfl, fun h => hl ((h d (by omega)).mpr hsm1)⟩), fun h => absurd h.symm one_ne⟩
          · refine ⟨fun h => absurd rfl h, fun _ => mid 1 (Or.inl ⟨rfl, fun q hq => ?_⟩)⟩
            by_cases e : q = d
            · subst e; exact ⟨fun h => absurd h hl, fun h => absurd h hsm0⟩
            · exact heq q (by omega)
      · refine ⟨fun _ => mid 0 (Or.inr ⟨rfl, fun h => hne (fun q hq => h q (by omega))⟩), fun h => absurd rfl h⟩
    unfold b_LongTrainModel_next_163
    refine M_peek X ht i3 i4 (by omega) ?_
    refine M_isSmall hpk (fun hl => ?_) (fun hl => ?_)
    · (first | refine z1T ?_ | refine z1N ?_)
      by_cases hlt : s + d < n
      · rw [if_pos hlt] at hl; exact more hlt (Or.inl hl)
      · rw [if_neg hlt] at hl; unfold ltr at hl; omega
    · (first | refine z0T ?_ | refine z0N ?_)
      refine M_peek X ht i3 i4 (by omega) ?_
      refine M_isDigit hpk (fun hdg => ?_) (fun hdg => ?_)
      · (first | refine z1T ?_ | refine z1N ?_)
        by_cases hlt : s + d < n
        · rw [if_pos hlt] at hdg; exact more hlt (Or.inr hdg)
        · rw [if_neg hlt] at hdg; unfold dgt at hdg; omega
      · (first | refine z0T ?_ | refine z0N ?_)
        refine fin (fun hlt hor => ?_)
        rw [if_pos hlt] at hl hdg
        exact hor.elim hl hdg
  refine M_isSmall (by (first | exact B31_s (by omega) (by omega) | exact B31_of _ | (constructor <;> omega))) (fun hl => ?_) (fun hl => ?_)
  · exact body 1 (ltr (c s)) Iff.rfl (Or.inl ⟨rfl, hl⟩)
  · exact body 0 (ltr (c s)) Iff.rfl (Or.inr ⟨rfl, hl⟩)
