/-! tokens -/
def ltr (x : Int) : Prop := 97 ≤ x ∧ x ≤ 122
def dgt (x : Int) : Prop := 48 ≤ x ∧ x ≤ 57
def blk (x : Int) : Prop := x = 32 ∨ x = 10
/-- where a token begins, from p on, ahead of b -/
noncomputable def skp (c : Nat → Int) (b p : Nat) : Nat := p + lf (fun d => ¬ blk (c (p + d))) (b - p)
/-- how long a run is -/
noncomputable def rnL (c : Nat → Int) (n s : Nat) : Nat := lf (fun d => ¬ (ltr (c (s + d)) ∨ dgt (c (s + d)))) (n - s)
def nv (c : Nat → Int) (s : Nat) : Nat → Int
  | 0 => 0
  | d + 1 => 10 * nv c s d + c (s + d) - 48
def wv (c : Nat → Int) (s : Nat) : Nat → Int
  | 0 => 0
  | d + 1 => 256 * wv c s d + c (s + d)
def lv (c : Nat → Int) (s : Nat) : Nat → Int
  | 0 => 0
  | d + 1 => 32 * lv c s d + c (s + d) - 96
/-- 0 end, 1 word, 2 number, 3 semicolon, 5 minus, 4 another -/
noncomputable def tkd (c : Nat → Int) (n b p : Nat) : Nat :=
  if b ≤ skp c b p then 0
  else @ite Nat (ltr (c (skp c b p)) ∨ dgt (c (skp c b p))) (Classical.propDecidable _)
    (@ite Nat ((∀ d, d < rnL c n (skp c b p) → ltr (c (skp c b p + d))) ∧ rnL c n (skp c b p) ≤ 7) (Classical.propDecidable _) 1
      (@ite Nat ((∀ d, d < rnL c n (skp c b p) → dgt (c (skp c b p + d))) ∧ rnL c n (skp c b p) ≤ 3) (Classical.propDecidable _) 2 4))
    (if c (skp c b p) = 59 then 3 else if c (skp c b p) = 45 then 5 else 4)
abbrev TXT (c : Nat → Int) (n : Nat) : Prop :=
  (n ≤ 940) ∧
  (∀ j, j < n → 0 ≤ c j ∧ c j ≤ 255)
theorem TXT.n {c : Nat → Int} {n : Nat} (h : TXT c n) : n ≤ 940 := h.1
theorem TXT.b {c : Nat → Int} {n : Nat} (h : TXT c n) : ∀ j, j < n → 0 ≤ c j ∧ c j ≤ 255 := h.2
theorem M_peek {c : Nat → Int} {n p : Nat} (X : TXT c n) {i t : F32} (ht : ∀ j, j < n → t j &&& 255 = eI (c j)) (h3 : i 3 = eI n) (h4 : i 4 = eI p) (hp : p ≤ n) {Q : Int32 → Prop} (hq : Q (eI (if p < n then c p else -1))) : w_LongTrainModel_peek i t Q := by
  have hn := X.n
  unfold w_LongTrainModel_peek
  rw [h3, h4]
  refine q_le (by (first | exact B31_s (by omega) (by omega) | exact B31_of _ | (constructor <;> omega))) (by (first | exact B31_s (by omega) (by omega) | exact B31_of _ | (constructor <;> omega))) (fun h => ?_) (fun h => ?_)
  · rw [if_neg (by omega)] at hq; exact hq
  · rw [if_pos (by omega)] at hq
    refine And.intro (eI_in (by omega) (by omega) (by omega)) ?_; (try simp (disch := omega) only [eI_cl, Int.toNat_natCast])
    rw [ht p (by omega)]; exact hq
theorem M_isSmall {x : Int} (hx : B31 x) {Q : Int32 → Prop} (h1 : ltr x → Q 1) (h0 : ¬ ltr x → Q 0) : w_LongTrainModel_isSmall (eI x) Q := by
  unfold w_LongTrainModel_isSmall
  unfold ltr at h1 h0
  (try simp only [eI_lit, eI_neg, eI_add, eI_sub, eI_mul, eF_ap, upd_eF])
  refine q_lt hx (by (first | exact B31_s (by omega) (by omega) | exact B31_of _ | (constructor <;> omega))) (fun h => h0 (by omega)) (fun h => ?_)
  exact q_lt (by (first | exact B31_s (by omega) (by omega) | exact B31_of _ | (constructor <;> omega))) hx (fun h2 => h0 (by omega)) (fun h2 => h1 (by omega))
theorem M_isDigit {x : Int} (hx : B31 x) {Q : Int32 → Prop} (h1 : dgt x → Q 1) (h0 : ¬ dgt x → Q 0) : w_LongTrainModel_isDigit (eI x) Q := by
  unfold w_LongTrainModel_isDigit
  unfold dgt at h1 h0
  (try simp only [eI_lit, eI_neg, eI_add, eI_sub, eI_mul, eF_ap, upd_eF])
  refine q_lt hx (by (first | exact B31_s (by omega) (by omega) | exact B31_of _ | (constructor <;> omega))) (fun h => h0 (by omega)) (fun h => ?_)
  exact q_lt (by (first | exact B31_s (by omega) (by omega) | exact B31_of _ | (constructor <;> omega))) hx (fun h2 => h0 (by omega)) (fun h2 => h1 (by omega))
theorem C_isLetter {x : Int} (hx : B31 x) {Q : Int32 → Prop} (h1 : ltr x → Q 1) (h0 : ¬ ltr x → Q 0) : w_Reader_isLetter (eI x) Q := by
  unfold w_Reader_isLetter
  unfold ltr at h1 h0
  (try simp only [eI_lit, eI_neg, eI_add, eI_sub, eI_mul, eF_ap, upd_eF])
  refine q_lt hx (by (first | exact B31_s (by omega) (by omega) | exact B31_of _ | (constructor <;> omega))) (fun h => h0 (by omega)) (fun h => ?_)
  exact q_lt (by (first | exact B31_s (by omega) (by omega) | exact B31_of _ | (constructor <;> omega))) hx (fun h2 => h0 (by omega)) (fun h2 => h1 (by omega))
theorem C_isDigit {x : Int} (hx : B31 x) {Q : Int32 → Prop} (h1 : dgt x → Q 1) (h0 : ¬ dgt x → Q 0) : w_Reader_isDigit (eI x) Q := by
  unfold w_Reader_isDigit
  unfold dgt at h1 h0
  (try simp only [eI_lit, eI_neg, eI_add, eI_sub, eI_mul, eF_ap, upd_eF])
  refine q_lt hx (by (first | exact B31_s (by omega) (by omega) | exact B31_of _ | (constructor <;> omega))) (fun h => h0 (by omega)) (fun h => ?_)
  exact q_lt (by (first | exact B31_s (by omega) (by omega) | exact B31_of _ | (constructor <;> omega))) hx (fun h2 => h0 (by omega)) (fun h2 => h1 (by omega))
theorem nodual {x : Int} (h1 : ltr x) (h2 : dgt x) : False := by
  unfold ltr at h1
  unfold dgt at h2
  omega
/-! the class: the next token -/
def eJ (a : Int) : Int64 := Int64.ofInt a
theorem eJ_add (a b : Int) : eJ a + eJ b = eJ (a + b) := (Int64.ofInt_add a b).symm
theorem eJ_sub (a b : Int) : eJ a - eJ b = eJ (a - b) := (Int64.ofInt_sub a b).symm
theorem eJ_mul (a b : Int) : eJ a * eJ b = eJ (a * b) := (Int64.ofInt_mul a b).symm
theorem eI_64 {a : Int} (h : B31 a) : (eI a).toInt64 = eJ a := by
  unfold eJ
  have : (eI a).toInt64 = Int64.ofInt (eI a).toInt := by simp
  rw [this, eI_toInt h]
theorem updL_s {f : Nat → Int64} {k : Nat} {x : Int64} : vp_updL f k x k = x := by simp [vp_updL]
abbrev CTk (c : Nat → Int) (n L p : Nat) (i : F32) (j : Nat → Int64) : Prop :=
  (i 5 = eI ((min (skp c (min n L) p) (min n L) : Nat) : Int)) ∧
  (tkd c n (min n L) p = 0 → i 4 = 5) ∧
  (tkd c n (min n L) p = 1 → i 4 = 1 ∧ i 3 = eI ((skp c (min n L) p + rnL c n (skp c (min n L) p) : Nat) : Int) ∧ j 7 = eJ (lv c (skp c (min n L) p) (rnL c n (skp c (min n L) p)))) ∧
  (tkd c n (min n L) p = 2 → i 4 = 2 ∧ i 3 = eI ((skp c (min n L) p + rnL c n (skp c (min n L) p) : Nat) : Int) ∧ i 6 = eI (nv c (skp c (min n L) p) (rnL c n (skp c (min n L) p)))) ∧
  (tkd c n (min n L) p = 3 → i 4 = 3 ∧ i 3 = eI ((skp c (min n L) p + 1 : Nat) : Int)) ∧
  (tkd c n (min n L) p = 5 → i 4 = 4 ∧ i 3 = eI ((skp c (min n L) p + 1 : Nat) : Int)) ∧
  (tkd c n (min n L) p = 4 → i 4 = 0)
theorem CTk.pl {c : Nat → Int} {n L p : Nat} {i : F32} {j : Nat → Int64} (h : CTk c n L p i j) : i 5 = eI ((min (skp c (min n L) p) (min n L) : Nat) : Int) := h.1
theorem CTk.e0 {c : Nat → Int} {n L p : Nat} {i : F32} {j : Nat → Int64} (h : CTk c n L p i j) : tkd c n (min n L) p = 0 → i 4 = 5 := h.2.1
theorem CTk.e1 {c : Nat → Int} {n L p : Nat} {i : F32} {j : Nat → Int64} (h : CTk c n L p i j) : tkd c n (min n L) p = 1 → i 4 = 1 ∧ i 3 = eI ((skp c (min n L) p + rnL c n (skp c (min n L) p) : Nat) : Int) ∧ j 7 = eJ (lv c (skp c (min n L) p) (rnL c n (skp c (min n L) p))) := h.2.2.1
theorem CTk.e2 {c : Nat → Int} {n L p : Nat} {i : F32} {j : Nat → Int64} (h : CTk c n L p i j) : tkd c n (min n L) p = 2 → i 4 = 2 ∧ i 3 = eI ((skp c (min n L) p + rnL c n (skp c (min n L) p) : Nat) : Int) ∧ i 6 = eI (nv c (skp c (min n L) p) (rnL c n (skp c (min n L) p))) := h.2.2.2.1
theorem CTk.e3 {c : Nat → Int} {n L p : Nat} {i : F32} {j : Nat → Int64} (h : CTk c n L p i j) : tkd c n (min n L) p = 3 → i 4 = 3 ∧ i 3 = eI ((skp c (min n L) p + 1 : Nat) : Int) := h.2.2.2.2.1
theorem CTk.e5 {c : Nat → Int} {n L p : Nat} {i : F32} {j : Nat → Int64} (h : CTk c n L p i j) : tkd c n (min n L) p = 5 → i 4 = 4 ∧ i 3 = eI ((skp c (min n L) p + 1 : Nat) : Int) := h.2.2.2.2.2.1
theorem CTk.e4 {c : Nat → Int} {n L p : Nat} {i : F32} {j : Nat → Int64} (h : CTk c n L p i j) : tkd c n (min n L) p = 4 → i 4 = 0 := h.2.2.2.2.2.2
theorem skp_bd (c : Nat → Int) {b p : Nat} (h : p ≤ b) : p ≤ skp c b p ∧ skp c b p ≤ b := by
  have := (lf_sp (fun d => ¬ blk (c (p + d))) (b - p)).1
  unfold skp
  omega
theorem rnL_bd (c : Nat → Int) {n s : Nat} : rnL c n s ≤ n - s := (lf_sp _ _).1
theorem C_readRun {c : Nat → Int} {n L p : Nat} (X : TXT c n) {i t : F32} {j : Nat → Int64} (ht : ∀ q, q < n → t q = eI (c q)) (h1 : i 1 = eI n) (h5 : i 5 = eI (skp c (min n L) p)) (h3 : i 3 = eI (skp c (min n L) p)) (hs : skp c (min n L) p < min n L) (hal : ltr (c (skp c (min n L) p)) ∨ dgt (c (skp c (min n L) p))) {Q : F32 → (Nat → Int64) → Prop} (hq : ∀ i' j', (∀ q, q ≠ 3 → q ≠ 4 → q ≠ 6 → i' q = i q) → CTk c n L p i' j' → Q i' j') : w_Reader_readRun i j t Q := by
  have hn := X.n
  generalize hS : skp c (min n L) p = s at *
  obtain ⟨l1, l2, l3⟩ := lf_sp (fun d => ¬ (ltr (c (s + d)) ∨ dgt (c (s + d)))) (n - s)
  have l1' : rnL c n s ≤ n - s := l1
  have hnotend : ¬ min n L ≤ s := by omega
  have hmin : min s (min n L) = s := by omega
  unfold w_Reader_readRun
  refine lg_Reader_readRun_12 (G := Nat) (fun d x1 i' j' => s + d ≤ n ∧ (∀ q, q < d → ltr (c (s + q)) ∨ dgt (c (s + q))) ∧ (∀ q, q ≠ 3 → q ≠ 4 → q ≠ 6 → i' q = i q) ∧ i' 3 = eI ((s + d : Nat) : Int) ∧ ∃ g : Nat, x1 = eI g ∧ g ≤ d ∧ (g = 0 ↔ ∀ q, q < d → ltr (c (s + q))) ∧ (g = d ↔ ∀ q, q < d → dgt (c (s + q))) ∧ ((∀ q, q < d → ltr (c (s + q))) → j' 7 = eJ (lv c s d)) ∧ ((∀ q, q < d → dgt (c (s + q))) → i' 6 = eI (nv c s d))) (fun d => n - s - d) ?_ 0 ⟨by omega, fun q hq => absurd hq (Nat.not_lt_zero _), fun q a b e => upd_n e, by rw [upd_n (by omega), h3]; rfl, 0, rfl, Nat.le_refl _, ⟨fun _ q hq => absurd hq (Nat.not_lt_zero _), fun _ => rfl⟩, ⟨fun _ q hq => absurd hq (Nat.not_lt_zero _), fun _ => rfl⟩, fun _ => updL_s, fun _ => upd_s⟩
  rintro kr d x1 i' j' ⟨hd, hall, hi, i3, g, rfl, hg, hg0, hgd, hlv, hnv⟩ hst
  have i1 : i' 1 = eI n := by rw [hi 1 (by omega) (by omega) (by omega)]; exact h1
  have i5 : i' 5 = eI s := by rw [hi 5 (by omega) (by omega) (by omega)]; exact h5
  have fin : (s + d < n → ¬ (ltr (c (s + d)) ∨ dgt (c (s + d)))) → j_Reader_readRun_140 i' j' (eI g) Q := fun hstop => by
    have hL : rnL c n s = d := lf_eq (by omega) (fun q hq hno => hno (hall q hq)) (fun h => hstop (by omega))
    have hd1 : 1 ≤ d := by
      rcases Nat.eq_zero_or_pos d with h0 | h0
      · subst h0; exact absurd hal (hstop (by omega))
      · exact h0
    have hk1 : (∀ q, q < d → ltr (c (s + q))) ∧ d ≤ 7 → tkd c n (min n L) p = 1 := fun h => by
      unfold tkd; rw [hS, if_neg hnotend, if_pos hal, hL, if_pos h]
    have hk2 : ¬ ((∀ q, q < d → ltr (c (s + q))) ∧ d ≤ 7) → ((∀ q, q < d → dgt (c (s + q))) ∧ d ≤ 3) → tkd c n (min n L) p = 2 := fun h h' => by
      unfold tkd; rw [hS, if_neg hnotend, if_pos hal, hL, if_neg h, if_pos h']
    have hk4 : ¬ ((∀ q, q < d → ltr (c (s + q))) ∧ d ≤ 7) → ¬ ((∀ q, q < d → dgt (c (s + q))) ∧ d ≤ 3) → tkd c n (min n L) p = 4 := fun h h' => by
      unfold tkd; rw [hS, if_neg hnotend, if_pos hal, hL, if_neg h, if_neg h']
    have oth : ¬ ((∀ q, q < d → ltr (c (s + q))) ∧ d ≤ 7) → ¬ ((∀ q, q < d → dgt (c (s + q))) ∧ d ≤ 3) → Q (upd i' 4 0) j' := fun h h' => by
      have e := hk4 h h'
      refine hq _ _ (fun q a b e => by rw [upd_n b]; exact hi q a b e) ⟨by rw [upd_n (by omega), hS, hmin]; exact i5, fun h => by omega, fun h => by omega, fun h => by omega, fun h => by omega, fun h => by omega, fun _ => upd_s⟩
    have num : ¬ ((∀ q, q < d → ltr (c (s + q))) ∧ d ≤ 7) → j_Reader_readRun_168 i' j' (eI g) (eI ((d : Nat) : Int)) Q := fun h => by
      unfold j_Reader_readRun_168
      refine q_ne (by (first | exact B31_s (by omega) (by omega) | exact B31_of _ | (constructor <;> omega))) (by (first | exact B31_s (by omega) (by omega) | exact B31_of _ | (constructor <;> omega))) (fun hne => ?_) (fun heq => ?_)
      · exact oth h (fun h' => hne (by have := hgd.mpr h'.1; omega))
      · have hdg := hgd.mp (by omega)
        refine q_lt (a := 3) (by (first | exact B31_s (by omega) (by omega) | exact B31_of _ | (constructor <;> omega))) (by (first | exact B31_s (by omega) (by omega) | exact B31_of _ | (constructor <;> omega))) (fun h4 => oth h (fun h' => by omega)) (fun h4 => ?_)
        have e := hk2 h ⟨hdg, by omega⟩
        refine hq _ _ (fun q a b e => by rw [upd_n b]; exact hi q a b e) ⟨by rw [upd_n (by omega), hS, hmin]; exact i5, fun h => by omega, fun h => by omega, fun _ => ⟨upd_s, by rw [upd_n (by omega), hS, hL]; exact i3, by rw [upd_n (by omega), hS, hL]; exact hnv hdg⟩, fun h => by omega, fun h => by omega, fun h => by omega⟩
    unfold j_Reader_readRun_140
    rw [i3, i5]
    (try simp only [eI_lit, eI_neg, eI_add, eI_sub, eI_mul, eF_ap, upd_eF])
    have esub : ((s + d : Nat) : Int) - (s : Int) = (d : Int) := by omega
    rw [esub]
    refine q_ne (by (first | exact B31_s (by omega) (by omega) | exact B31_of _ | (constructor <;> omega))) (by (first | exact B31_s (by omega) (by omega) | exact B31_of _ | (constructor <;> omega))) (fun hne => num (fun h => hne (by have := hg0.mpr h.1; omega))) (fun heq => ?_)
    have hlt := hg0.mp (by omega)
    refine q_lt (by (first | exact B31_s (by omega) (by omega) | exact B31_of _ | (constructor <;> omega))) (by (first | exact B31_s (by omega) (by omega) | exact B31_of _ | (constructor <;> omega))) (fun h7 => num (fun h => by omega)) (fun h7 => ?_)
    have e := hk1 ⟨hlt, by omega⟩
    exact hq _ _ (fun q a b e => by rw [upd_n b]; exact hi q a b e) ⟨by rw [upd_n (by omega), hS, hmin]; exact i5, fun h => by omega, fun _ => ⟨upd_s, by rw [upd_n (by omega), hS, hL]; exact i3, by rw [hS, hL]; exact hlv hlt⟩, fun h => by omega, fun h => by omega, fun h => by omega, fun h => by omega⟩
  unfold b_Reader_readRun_12
  rw [i1, i3]
  refine q_le (by (first | exact B31_s (by omega) (by omega) | exact B31_of _ | (constructor <;> omega))) (by (first | exact B31_s (by omega) (by omega) | exact B31_of _ | (constructor <;> omega))) (fun h => fin (fun h2 => by omega)) (fun h => ?_)
  have hc := X.b (s + d) (by omega)
  have more : (ltr (c (s + d)) ∨ dgt (c (s + d))) → j_Reader_readRun_53 i' j' t (eI g) kr := fun hor => by
    unfold j_Reader_readRun_53
    rw [i3]
    refine And.intro (eI_in (by omega) (by omega) (by omega)) ?_; (try simp (disch := omega) only [eI_cl, Int.toNat_natCast])
    rw [ht (s + d) (by omega)]
    have hall' : ∀ q, q < d + 1 → ltr (c (s + q)) ∨ dgt (c (s + q)) := fun q hq => by
      by_cases e : q = d
      · subst e; exact hor
      · exact hall q (by omega)
    refine C_isDigit (by (first | exact B31_s (by omega) (by omega) | exact B31_of _ | (constructor <;> omega))) (fun hdg => ?_) (fun hdg => ?_)
    · (first | refine z1T ?_ | refine z1N ?_)
      refine And.intro (eI_in (by omega) (by omega) (by omega)) ?_
      refine hst (d + 1) _ _ _ (by omega) ⟨by omega, hall', fun q a b e => by rw [upd_n a, upd_n e]; exact hi q a b e, by rw [upd_s, upd_n (by omega), i3]; (try simp only [eI_lit, eI_neg, eI_add, eI_sub, eI_mul, eF_ap, upd_eF]); congr 1, g + 1, by (try simp only [eI_lit, eI_neg, eI_add, eI_sub, eI_mul, eF_ap, upd_eF]); congr 1, by omega, ?_, ?_, ?_, ?_⟩
      · refine ⟨fun h => by omega, fun h => ?_⟩
        exact absurd (h d (by omega)) (fun hl => nodual hl hdg)
      · refine ⟨fun h q hq => ?_, fun h => ?_⟩
        · by_cases e : q = d
          · subst e; exact hdg
          · exact hgd.mp (by omega) q (by omega)
        · have := hgd.mpr (fun q hq => h q (by omega)); omega
      · exact fun h => absurd (h d (by omega)) (fun hl => nodual hl hdg)
      · intro h
        rw [upd_n (by omega), upd_s, hnv (fun q hq => h q (by omega)), nv]
        (try simp only [eI_lit, eI_neg, eI_add, eI_sub, eI_mul, eF_ap, upd_eF]); congr 1; omega
    · (first | refine z0T ?_ | refine z0N ?_)
      have hl : ltr (c (s + d)) := hor.resolve_right hdg
      refine And.intro (eI_in (by omega) (by omega) (by omega)) ?_
      refine hst (d + 1) _ _ _ (by omega) ⟨by omega, hall', fun q a b e => by rw [upd_n a]; exact hi q a b e, by rw [upd_s]; (try simp only [eI_lit, eI_neg, eI_add, eI_sub, eI_mul, eF_ap, upd_eF]); congr 1, g, rfl, by omega, ?_, ?_, ?_, ?_⟩
      · refine ⟨fun h q hq => ?_, fun h => hg0.mpr (fun q hq => h q (by omega))⟩
        by_cases e : q = d
        · subst e; exact hl
        · exact hg0.mp h q (by omega)
      · refine ⟨fun h => by omega, fun h => ?_⟩
        exact absurd (h d (by omega)) hdg
      · intro h
        rw [updL_s, hlv (fun q hq => h q (by omega)), eI_64 (by (first | exact B31_s (by omega) (by omega) | exact B31_of _ | (constructor <;> omega))), lv]
        have e32 : (32 : Int64) = eJ 32 := rfl
        have e97 : (97 : Int64) = eJ 97 := rfl
        have e1 : (1 : Int64) = eJ 1 := rfl
        rw [e32, e97, e1, eJ_mul, eJ_add, eJ_sub, eJ_add]
        congr 1; omega
      · exact fun h => absurd (h d (by omega)) hdg
  refine And.intro (eI_in (by omega) (by omega) (by omega)) ?_; (try simp (disch := omega) only [eI_cl, Int.toNat_natCast])
  rw [ht (s + d) (by omega)]
  refine C_isLetter (by (first | exact B31_s (by omega) (by omega) | exact B31_of _ | (constructor <;> omega))) (fun hl => ?_) (fun hl => ?_)
  · (first | refine z1T ?_ | refine z1N ?_); exact more (Or.inl hl)
  · (first | refine z0T ?_ | refine z0N ?_)
    refine And.intro (eI_in (by omega) (by omega) (by omega)) ?_
    refine C_isDigit (by (first | exact B31_s (by omega) (by omega) | exact B31_of _ | (constructor <;> omega))) (fun hdg => ?_) (fun hdg => ?_)
    · (first | refine z1T ?_ | refine z1N ?_); exact more (Or.inr hdg)
    · (first | refine z0T ?_ | refine z0N ?_); exact fin (fun _ hor => hor.elim hl hdg)
theorem C_advance {c : Nat → Int} {n L p : Nat} (X : TXT c n) (hL : L ≤ 940) {i t : F32} {j : Nat → Int64} (ht : ∀ q, q < n → t q = eI (c q)) (h1 : i 1 = eI n) (h2 : i 2 = eI L) (h3 : i 3 = eI p) (hp : p ≤ n) {Q : F32 → (Nat → Int64) → Prop} (hq : ∀ i' j', (∀ q, q = 1 ∨ q = 2 ∨ q = 8 ∨ q = 9 → i' q = i q) → CTk c n L p i' j' → Q i' j') : w_Reader_advance i j t Q := by
  have hn := X.n
  unfold w_Reader_advance
  rw [h1, h2, jmin_e (by (first | exact B31_s (by omega) (by omega) | exact B31_of _ | (constructor <;> omega))) (by (first | exact B31_s (by omega) (by omega) | exact B31_of _ | (constructor <;> omega)))]
  have eb : min (n : Int) (L : Int) = ((min n L : Nat) : Int) := by omega
  rw [eb]
  by_cases hpb : min n L ≤ p
  · have hsk : skp c (min n L) p = p := by
      unfold skp
      have e0 : min n L - p = 0 := by omega
      rw [e0]; rfl
    have hk : tkd c n (min n L) p = 0 := by unfold tkd; rw [if_pos (by omega)]
    have hminE : min (skp c (min n L) p) (min n L) = min n L := by omega
    refine lg_Reader_advance_12 (G := Nat) (fun d i' => i' = i) (fun d => d) ?_ 0 rfl
    rintro kr d i' rfl hs
    unfold b_Reader_advance_12
    rw [h3]
    refine q_le (by (first | exact B31_s (by omega) (by omega) | exact B31_of _ | (constructor <;> omega))) (by (first | exact B31_s (by omega) (by omega) | exact B31_of _ | (constructor <;> omega))) (fun h => ?_) (fun h => by omega)
    show j_Reader_advance_61 i' j t (eI ((min n L : Nat) : Int)) Q
    unfold j_Reader_advance_61
    rw [h3]
    refine q_lt (by (first | exact B31_s (by omega) (by omega) | exact B31_of _ | (constructor <;> omega))) (by (first | exact B31_s (by omega) (by omega) | exact B31_of _ | (constructor <;> omega))) (fun h => by omega) (fun h => ?_)
    exact hq _ _ (fun q hq => by rw [upd_n (by omega), upd_n (by omega)]) ⟨by rw [upd_n (by omega), upd_s, hminE], fun _ => upd_s, fun h => by omega, fun h => by omega, fun h => by omega, fun h => by omega, fun h => by omega⟩
  · have hsb := skp_bd c (b := min n L) (p := p) (by omega)
    obtain ⟨l1, l2, l3⟩ := lf_sp (fun d => ¬ blk (c (p + d))) (min n L - p)
    refine lg_Reader_advance_12 (G := Nat) (fun d i' => p + d ≤ skp c (min n L) p ∧ i' = upd i 3 (eI ((p + d : Nat) : Int))) (fun d => skp c (min n L) p - p - d) ?_ 0 ⟨by omega, by rw [Nat.add_zero, ← h3]; funext q; by_cases e : q = 3 <;> simp [upd, e]⟩
    rintro kr d i' ⟨hd, rfl⟩ hs
    have fin : p + d = skp c (min n L) p → j_Reader_advance_61 (upd i 3 (eI ((p + d : Nat) : Int))) j t (eI ((min n L : Nat) : Int)) Q := fun he => by
      rw [he]
      unfold j_Reader_advance_61
      rw [upd_s]
      refine q_lt (by (first | exact B31_s (by omega) (by omega) | exact B31_of _ | (constructor <;> omega))) (by (first | exact B31_s (by omega) (by omega) | exact B31_of _ | (constructor <;> omega))) (fun hlt => ?_) (fun hge => ?_)
      · have hc := X.b (skp c (min n L) p) (by omega)
        have e3 : upd (upd i 3 (eI ((skp c (min n L) p : Nat) : Int))) 5 (eI ((skp c (min n L) p : Nat) : Int)) 3 = eI (skp c (min n L) p) := by rw [upd_n (by omega), upd_s]
        rw [e3]
        have hnotend : ¬ min n L ≤ skp c (min n L) p := by omega
        have hmin : min (skp c (min n L) p) (min n L) = skp c (min n L) p := by omega
        refine And.intro (eI_in (by omega) (by omega) (by omega)) ?_; (try simp (disch := omega) only [eI_cl, Int.toNat_natCast])
        rw [ht _ (by omega)]
        have run : (ltr (c (skp c (min n L) p)) ∨ dgt (c (skp c (min n L) p))) → w_Reader_readRun (upd (upd i 3 (eI ((skp c (min n L) p : Nat) : Int))) 5 (eI ((skp c (min n L) p : Nat) : Int))) j t (fun i' j' => Q i' j') := fun hal => by
          refine C_readRun (p := p) (L := L) X ht (by rw [upd_n (by omega), upd_n (by omega)]; exact h1) upd_s e3 (by omega) hal (fun i2 j2 hi2 T2 => ?_)
          exact hq _ _ (fun q hq => by rw [hi2 q (by omega) (by omega) (by omega), upd_n (by omega), upd_n (by omega)]) T2
        refine C_isLetter (by (first | exact B31_s (by omega) (by omega) | exact B31_of _ | (constructor <;> omega))) (fun hl => by (first | refine z1T ?_ | refine z1N ?_); exact run (Or.inl hl)) (fun hl => ?_)
        (first | refine z0T ?_ | refine z0N ?_)
        refine C_isDigit (by (first | exact B31_s (by omega) (by omega) | exact B31_of _ | (constructor <;> omega))) (fun hdg => by (first | refine z1T ?_ | refine z1N ?_); exact run (Or.inr hdg)) (fun hdg => ?_)
        (first | refine z0T ?_ | refine z0N ?_)
        have hna : ¬ (ltr (c (skp c (min n L) p)) ∨ dgt (c (skp c (min n L) p))) := fun h => h.elim hl hdg
        have hk : tkd c n (min n L) p = (if c (skp c (min n L) p) = 59 then 3 else if c (skp c (min n L) p) = 45 then 5 else 4) := by
          unfold tkd; rw [if_neg hnotend, if_neg hna]
        have keep : ∀ v w : Int32, ∀ q, q = 1 ∨ q = 2 ∨ q = 8 ∨ q = 9 → upd (upd (upd (upd i 3 (eI ((skp c (min n L) p : Nat) : Int))) 5 (eI ((skp c (min n L) p : Nat) : Int))) 3 v) 4 w q = i q := fun v w q hq => by rw [upd_n (by omega), upd_n (by omega), upd_n (by omega), upd_n (by omega)]
        (try simp only [eI_lit, eI_neg, eI_add, eI_sub, eI_mul, eF_ap, upd_eF])
        refine q_ne (by (first | exact B31_s (by omega) (by omega) | exact B31_of _ | (constructor <;> omega))) (by (first | exact B31_s (by omega) (by omega) | exact B31_of _ | (constructor <;> omega))) (fun n59 => ?_) (fun e59 => ?_)
        · rw [if_neg n59] at hk
          refine q_ne (by (first | exact B31_s (by omega) (by omega) | exact B31_of _ | (constructor <;> omega))) (by (first | exact B31_s (by omega) (by omega) | exact B31_of _ | (constructor <;> omega))) (fun n45 => ?_) (fun e45 => ?_)
          · rw [if_neg n45] at hk
            refine hq _ _ (keep _ _) ⟨by rw [upd_n (by omega), upd_n (by omega), upd_s, hmin], fun h => by omega, fun h => by omega, fun h => by omega, fun h => by omega, fun h => by omega, fun _ => by rw [upd_s]; rfl⟩
          · rw [if_pos e45] at hk
            refine hq _ _ (keep _ _) ⟨by rw [upd_n (by omega), upd_n (by omega), upd_s, hmin], fun h => by omega, fun h => by omega, fun h => by omega, fun h => by omega, fun _ => ⟨by rw [upd_s]; rfl, by rw [upd_n (by omega), upd_s]; congr 1⟩, fun h => by omega⟩
        · rw [if_pos e59] at hk
          refine hq _ _ (keep _ _) ⟨by rw [upd_n (by omega), upd_n (by omega), upd_s, hmin], fun h => by omega, fun h => by omega, fun h => by omega, fun _ => ⟨by rw [upd_s]; rfl, by rw [upd_n (by omega), upd_s]; congr 1⟩, fun h => by omega, fun h => by omega⟩
      · have e : skp c (min n L) p = min n L := by omega
        have hk : tkd c n (min n L) p = 0 := by unfold tkd; rw [if_pos (by omega)]
        have hminE : min (skp c (min n L) p) (min n L) = min n L := by omega
        refine hq _ _ (fun q hq => by rw [upd_n (by omega), upd_n (by omega), upd_n (by omega)]) ⟨by rw [upd_n (by omega), upd_s, hminE], fun _ => upd_s, fun h => by omega, fun h => by omega, fun h => by omega, fun h => by omega, fun h => by omega⟩
    unfold b_Reader_advance_12
    rw [upd_s]
    refine q_le (by (first | exact B31_s (by omega) (by omega) | exact B31_of _ | (constructor <;> omega))) (by (first | exact B31_s (by omega) (by omega) | exact B31_of _ | (constructor <;> omega))) (fun h => fin (by omega)) (fun h => ?_)
    have hc := X.b (p + d) (by omega)
    have nx : blk (c (p + d)) → kr (upd i 3 (eI (((p + d : Nat) : Int) + 1))) := fun hb => by
      refine hs (d + 1) _ ?_ ⟨?_, by congr 1⟩
      · unfold skp at hd ⊢
        have : lf (fun d => ¬ blk (c (p + d))) (min n L - p) ≠ d := fun e => by
          have := l3 (by omega); rw [e] at this; exact this hb
        omega
      · unfold skp at hd ⊢
        have : lf (fun d => ¬ blk (c (p + d))) (min n L - p) ≠ d := fun e => by
          have := l3 (by omega); rw [e] at this; exact this hb
        omega
    refine And.intro (eI_in (by omega) (by omega) (by omega)) ?_; (try simp (disch := omega) only [eI_cl, Int.toNat_natCast])
    rw [ht _ (by omega)]
    rw [upd_upd]
    (try simp only [eI_lit, eI_neg, eI_add, eI_sub, eI_mul, eF_ap, upd_eF])
    refine q_eq (by (first | exact B31_s (by omega) (by omega) | exact B31_of _ | (constructor <;> omega))) (by (first | exact B31_s (by omega) (by omega) | exact B31_of _ | (constructor <;> omega))) (fun e32 => nx (Or.inl e32)) (fun n32 => ?_)
    refine And.intro (eI_in (by omega) (by omega) (by omega)) ?_
    refine q_ne (by (first | exact B31_s (by omega) (by omega) | exact B31_of _ | (constructor <;> omega))) (by (first | exact B31_s (by omega) (by omega) | exact B31_of _ | (constructor <;> omega))) (fun n10 => ?_) (fun e10 => nx (Or.inr e10))
    refine fin ?_
    have hnb : ¬ blk (c (p + d)) := fun hb => hb.elim n32 n10
    unfold skp at hd ⊢
    have : lf (fun d => ¬ blk (c (p + d))) (min n L - p) = d := lf_eq (by omega) (fun q hq => l2 q (by omega)) (fun _ => hnb)
    omega
