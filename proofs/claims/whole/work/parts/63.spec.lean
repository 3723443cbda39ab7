/-! what a line says, by the numbers of the reference's array -/
theorem eI_10 : ¬ (eI 1 = eI 0) := by decide
theorem one_ne : ¬ ((1 : Int32) = 0) := by decide
/-- branches on a flag that is known -/
theorem z0T {A B : Prop} (h : A) : ((0 : Int32) = 0 → A) ∧ (¬ (0 : Int32) = 0 → B) := ⟨fun _ => h, fun g => absurd rfl g⟩
theorem z0N {A B : Prop} (h : B) : (¬ (0 : Int32) = 0 → A) ∧ ((0 : Int32) = 0 → B) := ⟨fun g => absurd rfl g, fun _ => h⟩
theorem z1T {A B : Prop} (h : B) : ((1 : Int32) = 0 → A) ∧ (¬ (1 : Int32) = 0 → B) := ⟨fun g => absurd g one_ne, fun _ => h⟩
theorem z1N {A B : Prop} (h : A) : (¬ (1 : Int32) = 0 → A) ∧ ((1 : Int32) = 0 → B) := ⟨fun _ => h, fun g => absurd g one_ne⟩
theorem upd_upd {f : Nat → Int32} {k : Nat} {x y : Int32} : upd (upd f k x) k y = upd f k y := by
  funext j
  unfold upd
  by_cases h : j = k <;> simp [h]
def LG (σ : Nat → Int) (k : Int) : Int := σ (457 + 3 * k).toNat
def WT (σ : Nat → Int) (k : Int) : Int := σ (457 + 3 * k + 1).toNat
def ST (σ : Nat → Int) (k : Int) : Int := σ (457 + 3 * k + 2).toNat
def AT (σ : Nat → Int) (k : Int) : Int := σ (411 + 3 * k).toNat
def HL (σ : Nat → Int) (k : Int) : Int := σ (411 + 3 * k + 1).toNat
def AD (σ : Nat → Int) (k : Int) : Int := σ (411 + 3 * k + 2).toNat - 1
def GR (σ : Nat → Int) (u : Int) : Int := if u < 0 then 0 else σ (11 + u).toNat
/-- what holds of each line that stands -/
abbrev LOk (σ : Nat → Int) : Prop :=
  (0 ≤ σ 0 ∧ σ 0 ≤ 400) ∧
  (0 ≤ σ 1 ∧ σ 1 ≤ 10) ∧
  (0 ≤ σ 2 ∧ σ 2 ≤ 8) ∧
  (0 ≤ σ 3 ∧ σ 3 ≤ 6) ∧
  (1 ≤ σ 4 ∧ σ 4 ≤ 999) ∧
  (1 ≤ σ 5 ∧ σ 5 ≤ 99) ∧
  (0 ≤ σ 6 ∧ σ 6 ≤ 9) ∧
  (0 ≤ σ 7 ∧ σ 7 ≤ 99) ∧
  (1 ≤ σ 8 ∧ σ 8 ≤ 99) ∧
  (1 ≤ σ 9 ∧ σ 9 ≤ 9) ∧
  (0 ≤ σ 10 ∧ σ 10 ≤ 8) ∧
  (∀ j : Nat, j < 400 → -9 ≤ σ (11 + j) ∧ σ (11 + j) ≤ 9) ∧
  (∀ k : Nat, (k : Int) < σ 1 → 0 ≤ AT σ k ∧ AT σ k < σ 0) ∧
  (∀ k : Nat, (k : Int) < σ 1 → 1 ≤ HL σ k ∧ HL σ k ≤ 99) ∧
  (∀ k : Nat, (k : Int) < σ 1 → -1 ≤ AD σ k ∧ AD σ k < σ 3) ∧
  (∀ j k : Nat, j < k → (k : Int) < σ 1 → AT σ j < AT σ k) ∧
  (∀ k : Nat, (k : Int) < σ 2 → 0 ≤ σ (441 + 2 * k) ∧ σ (441 + 2 * k) < σ 0 ∧ 1 ≤ σ (441 + 2 * k + 1) ∧ σ (441 + 2 * k + 1) ≤ 99) ∧
  (∀ k : Int, 0 ≤ k → k < σ 3 → (1 ≤ LG σ k ∧ LG σ k ≤ 9) ∧ (1 ≤ WT σ k ∧ WT σ k ≤ 99) ∧ (1 ≤ ST σ k ∧ ST σ k ≤ 999)) ∧
  (∀ i : Nat, (i : Int) < σ 10 → 0 ≤ σ (475 + i) ∧ σ (475 + i) < σ 3)
theorem LOk.u {σ : Nat → Int} (h : LOk σ) : 0 ≤ σ 0 ∧ σ 0 ≤ 400 := h.1
theorem LOk.hc {σ : Nat → Int} (h : LOk σ) : 0 ≤ σ 1 ∧ σ 1 ≤ 10 := h.2.1
theorem LOk.lc {σ : Nat → Int} (h : LOk σ) : 0 ≤ σ 2 ∧ σ 2 ≤ 8 := h.2.2.1
theorem LOk.kc {σ : Nat → Int} (h : LOk σ) : 0 ≤ σ 3 ∧ σ 3 ≤ 6 := h.2.2.2.1
theorem LOk.pull {σ : Nat → Int} (h : LOk σ) : 1 ≤ σ 4 ∧ σ 4 ≤ 999 := h.2.2.2.2.1
theorem LOk.eng {σ : Nat → Int} (h : LOk σ) : 1 ≤ σ 5 ∧ σ 5 ≤ 99 := h.2.2.2.2.2.1
theorem LOk.rub {σ : Nat → Int} (h : LOk σ) : 0 ≤ σ 6 ∧ σ 6 ≤ 9 := h.2.2.2.2.2.2.1
theorem LOk.sand {σ : Nat → Int} (h : LOk σ) : 0 ≤ σ 7 ∧ σ 7 ≤ 99 := h.2.2.2.2.2.2.2.1
theorem LOk.wear {σ : Nat → Int} (h : LOk σ) : 1 ≤ σ 8 ∧ σ 8 ≤ 99 := h.2.2.2.2.2.2.2.2.1
theorem LOk.walk {σ : Nat → Int} (h : LOk σ) : 1 ≤ σ 9 ∧ σ 9 ≤ 9 := h.2.2.2.2.2.2.2.2.2.1
theorem LOk.fc {σ : Nat → Int} (h : LOk σ) : 0 ≤ σ 10 ∧ σ 10 ≤ 8 := h.2.2.2.2.2.2.2.2.2.2.1
theorem LOk.gr {σ : Nat → Int} (h : LOk σ) : ∀ j : Nat, j < 400 → -9 ≤ σ (11 + j) ∧ σ (11 + j) ≤ 9 := h.2.2.2.2.2.2.2.2.2.2.2.1
theorem LOk.at_ {σ : Nat → Int} (h : LOk σ) : ∀ k : Nat, (k : Int) < σ 1 → 0 ≤ AT σ k ∧ AT σ k < σ 0 := h.2.2.2.2.2.2.2.2.2.2.2.2.1
theorem LOk.hl {σ : Nat → Int} (h : LOk σ) : ∀ k : Nat, (k : Int) < σ 1 → 1 ≤ HL σ k ∧ HL σ k ≤ 99 := h.2.2.2.2.2.2.2.2.2.2.2.2.2.1
theorem LOk.ad {σ : Nat → Int} (h : LOk σ) : ∀ k : Nat, (k : Int) < σ 1 → -1 ≤ AD σ k ∧ AD σ k < σ 3 := h.2.2.2.2.2.2.2.2.2.2.2.2.2.2.1
theorem LOk.asc {σ : Nat → Int} (h : LOk σ) : ∀ j k : Nat, j < k → (k : Int) < σ 1 → AT σ j < AT σ k := h.2.2.2.2.2.2.2.2.2.2.2.2.2.2.2.1
theorem LOk.lp {σ : Nat → Int} (h : LOk σ) : ∀ k : Nat, (k : Int) < σ 2 → 0 ≤ σ (441 + 2 * k) ∧ σ (441 + 2 * k) < σ 0 ∧ 1 ≤ σ (441 + 2 * k + 1) ∧ σ (441 + 2 * k + 1) ≤ 99 := h.2.2.2.2.2.2.2.2.2.2.2.2.2.2.2.2.1
theorem LOk.kd {σ : Nat → Int} (h : LOk σ) : ∀ k : Int, 0 ≤ k → k < σ 3 → (1 ≤ LG σ k ∧ LG σ k ≤ 9) ∧ (1 ≤ WT σ k ∧ WT σ k ≤ 99) ∧ (1 ≤ ST σ k ∧ ST σ k ≤ 999) := h.2.2.2.2.2.2.2.2.2.2.2.2.2.2.2.2.2.1
theorem LOk.tr {σ : Nat → Int} (h : LOk σ) : ∀ i : Nat, (i : Int) < σ 10 → 0 ≤ σ (475 + i) ∧ σ (475 + i) < σ 3 := h.2.2.2.2.2.2.2.2.2.2.2.2.2.2.2.2.2.2
theorem LOk.GRb {σ : Nat → Int} (h : LOk σ) {u : Int} (hu : u < 400) : -9 ≤ GR σ u ∧ GR σ u ≤ 9 := by
  unfold GR
  split
  · omega
  · have := h.gr u.toNat (by omega)
    have e : (11 + u).toNat = 11 + u.toNat := by omega
    rw [e]; exact this
/-- the halts with AT no more than h: how many -/
def hbr (σ : Nat → Int) (h : Int) : Nat → Nat
  | 0 => 0
  | m + 1 => if AT σ m ≤ h then m + 1 else hbr σ h m
def hb (σ : Nat → Int) (h : Int) : Nat := hbr σ h (σ 1).toNat
theorem hbr_le (σ : Nat → Int) (h : Int) : ∀ m, hbr σ h m ≤ m
  | 0 => Nat.le_refl _
  | m + 1 => by
    have := hbr_le σ h m
    unfold hbr
    split <;> omega
theorem hbr_sp {σ : Nat → Int} (L : LOk σ) (h : Int) : ∀ m : Nat, (m : Int) ≤ σ 1 → ∀ k : Nat, k < m → (k < hbr σ h m ↔ AT σ k ≤ h)
  | 0, _, k, hk => absurd hk (Nat.not_lt_zero _)
  | m + 1, hm, k, hk => by
    have ih := hbr_sp L h m (by omega)
    have hle := hbr_le σ h m
    unfold hbr
    by_cases hc : AT σ m ≤ h
    · rw [if_pos hc]
      refine ⟨fun _ => ?_, fun _ => hk⟩
      by_cases hkm : k = m
      · subst hkm; exact hc
      · have := L.asc k m (by omega) (by omega); omega
    · rw [if_neg hc]
      by_cases hkm : k = m
      · subst hkm
        refine ⟨fun h1 => ?_, fun h1 => absurd h1 hc⟩
        omega
      · exact ih k (by omega)
theorem hb_le {σ : Nat → Int} (L : LOk σ) (h : Int) : (hb σ h : Int) ≤ σ 1 := by
  have := hbr_le σ h (σ 1).toNat
  have := L.hc
  unfold hb
  omega
theorem hb_sp {σ : Nat → Int} (L : LOk σ) (h : Int) {k : Nat} (hk : (k : Int) < σ 1) : k < hb σ h ↔ AT σ k ≤ h :=
  hbr_sp L h (σ 1).toNat (by omega) k (by omega)
/-- hb is the only number that parts the halts so -/
theorem hb_eq {σ : Nat → Int} (L : LOk σ) {h : Int} {m : Nat} (hm : (m : Int) ≤ σ 1) (h1 : ∀ k : Nat, k < m → AT σ k ≤ h) (h2 : ∀ k : Nat, m ≤ k → (k : Int) < σ 1 → h < AT σ k) : hb σ h = m := by
  have hl := hb_le L h
  rcases Nat.lt_trichotomy (hb σ h) m with hlt | he | hgt
  · have h3 := h1 (hb σ h) hlt
    have := (hb_sp L h (k := hb σ h) (by omega)).mpr h3
    omega
  · exact he
  · have h3 := h2 m (Nat.le_refl _) (by omega)
    have := (hb_sp L h (k := m) (by omega)).mp hgt
    omega
theorem hb_mono {σ : Nat → Int} (L : LOk σ) {a b : Int} (hab : a ≤ b) : hb σ a ≤ hb σ b := by
  by_cases h : hb σ a ≤ hb σ b
  · exact h
  · have h1 := hb_le L a
    have h2 := (hb_sp L a (k := hb σ b) (by omega)).mp (by omega)
    have h3 := (hb_sp L b (k := hb σ b) (by omega)).mpr (by omega)
    omega
/-- FREE: the wagons once m halts are behind -/
def frn (σ : Nat → Int) : Nat → Nat
  | 0 => (σ 10).toNat
  | m + 1 => if 1 ≤ AT σ m ∧ 0 ≤ AD σ m then frn σ m + 1 else frn σ m
def frk (σ : Nat → Int) : Nat → Nat → Int
  | 0 => fun i => σ (475 + i)
  | m + 1 => if 1 ≤ AT σ m ∧ 0 ≤ AD σ m then updI (frk σ m) (frn σ m) (AD σ m) else frk σ m
theorem frn_le {σ : Nat → Int} (L : LOk σ) : ∀ m, frn σ m ≤ 8 + m
  | 0 => by have := L.fc; unfold frn; omega
  | m + 1 => by have := frn_le L m; unfold frn; split <;> omega
theorem frn_mono (σ : Nat → Int) : ∀ {m d : Nat}, frn σ m ≤ frn σ (m + d)
  | _, 0 => Nat.le_refl _
  | m, d + 1 => by
    have := frn_mono σ (m := m) (d := d)
    show _ ≤ frn σ (m + d + 1)
    rw [frn]
    split <;> omega
theorem frk_ok {σ : Nat → Int} (L : LOk σ) : ∀ m : Nat, (m : Int) ≤ σ 1 → ∀ j, j < frn σ m → 0 ≤ frk σ m j ∧ frk σ m j < σ 3
  | 0, _, j, hj => by
    have := L.fc
    unfold frn at hj
    exact L.tr j (by omega)
  | m + 1, hm, j, hj => by
    have ih := frk_ok L m (by omega)
    unfold frn at hj
    unfold frk
    by_cases hc : 1 ≤ AT σ m ∧ 0 ≤ AD σ m
    · rw [if_pos hc] at hj ⊢
      unfold updI
      split
      · exact ⟨hc.2, (L.ad m (by omega)).2⟩
      · exact ih j (by omega)
    · rw [if_neg hc] at hj ⊢
      exact ih j hj
/-- ahead of the first MOVE no halt has added -/
theorem fr_zero {σ : Nat → Int} (L : LOk σ) {h : Int} (hh : h ≤ 0) : ∀ m, m ≤ hb σ h → frn σ m = frn σ 0 ∧ frk σ m = frk σ 0
  | 0, _ => ⟨rfl, rfl⟩
  | m + 1, hm => by
    have ih := fr_zero L hh m (by omega)
    have := hb_le L h
    have h1 := (hb_sp L h (k := m) (by omega)).mp (by omega)
    have hc : ¬ (1 ≤ AT σ m ∧ 0 ≤ AD σ m) := by omega
    show (if 1 ≤ AT σ m ∧ 0 ≤ AD σ m then frn σ m + 1 else frn σ m) = _ ∧ (if 1 ≤ AT σ m ∧ 0 ≤ AD σ m then updI (frk σ m) (frn σ m) (AD σ m) else frk σ m) = _
    rw [if_neg hc, if_neg hc]
    exact ih
/-! forces -/
def fo (σ : Nat → Int) (k : Nat → Int) (head : Int) (i : Nat) : Int := head - 1 - sm (fun j => LG σ (k j)) i
def dg (σ : Nat → Int) (k : Nat → Int) (head : Int) (i : Nat) : Int := WT σ (k i) * (GR σ (fo σ k head i) + σ 6)
def br (σ : Nat → Int) (k : Nat → Int) (n : Nat) (head : Int) (i : Nat) : Int := sm (dg σ k head) n - sm (dg σ k head) i
def ld (σ : Nat → Int) (k : Nat → Int) (n : Nat) (head : Int) : Int := sm (dg σ k head) n + σ 5 * ((if σ 0 = 0 then 0 else GR σ head) + σ 6)
def KOk (σ : Nat → Int) (k : Nat → Int) (n : Nat) : Prop := ∀ j, j < n → 0 ≤ k j ∧ k j < σ 3
theorem KOk.fr {σ : Nat → Int} (L : LOk σ) {m : Nat} (hm : (m : Int) ≤ σ 1) : KOk σ (frk σ m) (frn σ m) := frk_ok L m hm
theorem sm_lg {σ : Nat → Int} (L : LOk σ) {k : Nat → Int} {n : Nat} (hk : KOk σ k n) {i : Nat} (hi : i ≤ n) : 0 ≤ sm (fun j => LG σ (k j)) i ∧ sm (fun j => LG σ (k j)) i ≤ 9 * i := by
  have h := sm_bd (f := fun j => LG σ (k j)) (lo := 0) (hi := 9) (n := i) (fun j hj => by
    have h1 := hk j (by omega)
    have h2 := L.kd (k j) h1.1 h1.2
    exact ⟨by omega, by omega⟩)
  omega
theorem mul_bd {a b A B : Int} (ha : 0 ≤ a) (ha2 : a ≤ A) (hb1 : -B ≤ b) (hb2 : b ≤ B) (hB : 0 ≤ B) : -(A * B) ≤ a * b ∧ a * b ≤ A * B := by
  have h1 : a * b ≤ a * B := Int.mul_le_mul_of_nonneg_left hb2 ha
  have h2 : a * B ≤ A * B := Int.mul_le_mul_of_nonneg_right ha2 hB
  have h3 : a * (-B) ≤ a * b := Int.mul_le_mul_of_nonneg_left hb1 ha
  have h4 : a * (-B) = -(a * B) := Int.mul_neg a B
  omega
theorem dg_bd {σ : Nat → Int} (L : LOk σ) {k : Nat → Int} {n : Nat} (hk : KOk σ k n) {head : Int} (hh : head ≤ 400) {i : Nat} (hi : i < n) : -1782 ≤ dg σ k head i ∧ dg σ k head i ≤ 1782 := by
  have h1 := hk i hi
  have h2 := L.kd (k i) h1.1 h1.2
  have h3 := sm_lg L hk (i := i) (by omega)
  have h4 := L.GRb (u := fo σ k head i) (by unfold fo; omega)
  have h5 := L.rub
  have := mul_bd (a := WT σ (k i)) (b := GR σ (fo σ k head i) + σ 6) (A := 99) (B := 18) (by omega) (by omega) (by omega) (by omega) (by omega)
  unfold dg
  omega
theorem smdg_bd {σ : Nat → Int} (L : LOk σ) {k : Nat → Int} {n : Nat} (hk : KOk σ k n) {head : Int} (hh : head ≤ 400) {i : Nat} (hi : i ≤ n) : -1782 * (i : Int) ≤ sm (dg σ k head) i ∧ sm (dg σ k head) i ≤ 1782 * (i : Int) :=
  sm_bd (fun j hj => dg_bd L hk hh (by omega))
