/-! numbers: an Int32 by its Int; branches by the numbers behind them -/
def eI (a : Int) : Int32 := Int32.ofInt a
theorem eI_add (a b : Int) : eI a + eI b = eI (a + b) := (Int32.ofInt_add a b).symm
theorem eI_sub (a b : Int) : eI a - eI b = eI (a - b) := (Int32.ofInt_sub a b).symm
theorem eI_mul (a b : Int) : eI a * eI b = eI (a * b) := (Int32.ofInt_mul a b).symm
theorem eI_neg (a : Int) : - eI a = eI (-a) := (Int32.ofInt_neg a).symm
theorem eI_lit (n : Nat) : (OfNat.ofNat n : Int32) = eI (OfNat.ofNat n : Int) := rfl
theorem eI_of (x : Int32) : eI x.toInt = x := Int32.ofInt_toInt x
def B31 (a : Int) : Prop := -2147483648 ≤ a ∧ a ≤ 2147483647
theorem eI_toInt {a : Int} (h : B31 a) : (eI a).toInt = a := Int32.toInt_ofInt_of_le (by have := h.1; simp; omega) (by have := h.2; simp; omega)
theorem B31_of (x : Int32) : B31 x.toInt := ⟨by have := x.le_toInt; simp at this; omega, by have := x.toInt_lt; simp at this; omega⟩
theorem eI_lt {a b : Int} (ha : B31 a) (hb : B31 b) : eI a < eI b ↔ a < b := by rw [Int32.lt_iff_toInt_lt, eI_toInt ha, eI_toInt hb]
theorem eI_le {a b : Int} (ha : B31 a) (hb : B31 b) : eI a ≤ eI b ↔ a ≤ b := by rw [Int32.le_iff_toInt_le, eI_toInt ha, eI_toInt hb]
theorem eI_eq {a b : Int} (ha : B31 a) (hb : B31 b) : eI a = eI b ↔ a = b := by rw [← Int32.toInt_inj, eI_toInt ha, eI_toInt hb]
theorem eI_cl {a : Int} (h0 : 0 ≤ a) (h : a ≤ 2147483647) : (eI a).toNatClampNeg = a.toNat := by
  show (eI a).toInt.toNat = _
  rw [eI_toInt ⟨by omega, h⟩]
theorem eI_in {a : Int} {n : Nat} (h0 : 0 ≤ a) (h : a < n) (hn : n ≤ 2147483647) : vp_in (eI a) n := by
  rw [vp_in_iff, eI_toInt ⟨by omega, by omega⟩]
  exact ⟨h0, h⟩
theorem q_lt {a b : Int} {A B : Prop} (ha : B31 a) (hb : B31 b) (f : a < b → A) (g : b ≤ a → B) : (eI a < eI b → A) ∧ (¬ eI a < eI b → B) :=
  ⟨fun h => f ((eI_lt ha hb).mp h), fun h => g (by rw [eI_lt ha hb] at h; omega)⟩
theorem q_le {a b : Int} {A B : Prop} (ha : B31 a) (hb : B31 b) (f : a ≤ b → A) (g : b < a → B) : (eI a ≤ eI b → A) ∧ (¬ eI a ≤ eI b → B) :=
  ⟨fun h => f ((eI_le ha hb).mp h), fun h => g (by rw [eI_le ha hb] at h; omega)⟩
theorem q_eq {a b : Int} {A B : Prop} (ha : B31 a) (hb : B31 b) (f : a = b → A) (g : a ≠ b → B) : (eI a = eI b → A) ∧ (¬ eI a = eI b → B) :=
  ⟨fun h => f ((eI_eq ha hb).mp h), fun h => g (by rw [eI_eq ha hb] at h; exact h)⟩
theorem q_ne {a b : Int} {A B : Prop} (ha : B31 a) (hb : B31 b) (f : a ≠ b → A) (g : a = b → B) : (¬ eI a = eI b → A) ∧ (eI a = eI b → B) :=
  ⟨fun h => f (by rw [eI_eq ha hb] at h; exact h), fun h => g ((eI_eq ha hb).mp h)⟩
/-- sums -/
def sm (f : Nat → Int) : Nat → Int
  | 0 => 0
  | n + 1 => sm f n + f n
theorem sm_congr {f g : Nat → Int} : ∀ {n : Nat}, (∀ j, j < n → f j = g j) → sm f n = sm g n
  | 0, _ => rfl
  | n + 1, h => by rw [sm, sm, sm_congr (fun j hj => h j (by omega)), h n (by omega)]
theorem sm_bd {f : Nat → Int} {lo hi : Int} : ∀ {n : Nat}, (∀ j, j < n → lo ≤ f j ∧ f j ≤ hi) → lo * n ≤ sm f n ∧ sm f n ≤ hi * n
  | 0, _ => by simp [sm]
  | n + 1, h => by
    have h1 := sm_bd (n := n) (fun j hj => h j (by omega))
    have h2 := h n (by omega)
    have e1 : lo * ((n + 1 : Nat) : Int) = lo * n + lo := by rw [Int.natCast_add, Int.mul_add]; simp
    have e2 : hi * ((n + 1 : Nat) : Int) = hi * n + hi := by rw [Int.natCast_add, Int.mul_add]; simp
    rw [sm, e1, e2]
    omega
theorem upd_s {f : Nat → Int32} {k : Nat} {x : Int32} : upd f k x k = x := pk_us
theorem upd_n {f : Nat → Int32} {k j : Nat} {x : Int32} (h : j ≠ k) : upd f k x j = f j := pk_un h
theorem upd_f {f : Nat → Int32} {z : Nat → Int} {k : Nat} {x : Int} (h : ∀ j, f j = eI (z j)) : ∀ j, upd f k (eI x) j = eI (if j = k then x else z j) := by
  intro j
  by_cases hj : j = k
  · subst hj; simp [upd]
  · simp [upd, hj, h]
/-! arrays of ints by their numbers -/
def eF (z : Nat → Int) : Nat → Int32 := fun k => eI (z k)
theorem eF_ap (z : Nat → Int) (k : Nat) : eF z k = eI (z k) := rfl
def updI (z : Nat → Int) (k : Nat) (x : Int) : Nat → Int := fun j => if j = k then x else z j
theorem upd_eF (z : Nat → Int) (k : Nat) (x : Int) : upd (eF z) k (eI x) = eF (updI z k x) := by
  funext j
  unfold upd eF updI
  by_cases h : j = k <;> simp [h]
theorem updI_s (z : Nat → Int) (k : Nat) (x : Int) : updI z k x k = x := by simp [updI]
theorem updI_n {z : Nat → Int} {k j : Nat} (x : Int) (h : j ≠ k) : updI z k x j = z j := by simp [updI, h]
theorem eF_of (r : Nat → Int32) : eF (fun k => (r k).toInt) = r := by
  funext k
  exact eI_of (r k)
theorem B31_s {a : Int} (h1 : -1000000000 ≤ a) (h2 : a ≤ 1000000000) : B31 a := ⟨by omega, by omega⟩
theorem eI_m1 : (-1 : Int32) = eI (-1) := rfl
theorem q_lt0 {a : Int} {A B : Prop} (ha : B31 a) (f : a < 0 → A) (g : 0 ≤ a → B) : (eI a < 0 → A) ∧ (¬ eI a < 0 → B) := q_lt (b := 0) ha ⟨by omega, by omega⟩ f g
theorem q_ge0 {a : Int} {A B : Prop} (ha : B31 a) (f : 0 ≤ a → A) (g : a < 0 → B) : (0 ≤ eI a → A) ∧ (¬ 0 ≤ eI a → B) := q_le (a := 0) ⟨by omega, by omega⟩ ha f g
theorem q_gt0 {a : Int} {A B : Prop} (ha : B31 a) (f : 0 < a → A) (g : a ≤ 0 → B) : (0 < eI a → A) ∧ (¬ 0 < eI a → B) := q_lt (a := 0) ⟨by omega, by omega⟩ ha f g
theorem q_le0 {a : Int} {A B : Prop} (ha : B31 a) (f : a ≤ 0 → A) (g : 0 < a → B) : (eI a ≤ 0 → A) ∧ (¬ eI a ≤ 0 → B) := q_le (b := 0) ha ⟨by omega, by omega⟩ f g
theorem q_eq0 {a : Int} {A B : Prop} (ha : B31 a) (f : a = 0 → A) (g : a ≠ 0 → B) : (eI a = 0 → A) ∧ (¬ eI a = 0 → B) := q_eq (b := 0) ha ⟨by omega, by omega⟩ f g
theorem q_ne0 {a : Int} {A B : Prop} (ha : B31 a) (f : a ≠ 0 → A) (g : a = 0 → B) : (¬ eI a = 0 → A) ∧ (eI a = 0 → B) := q_ne (b := 0) ha ⟨by omega, by omega⟩ f g
/-- a boolean answer -/
def bI (b : Prop) [Decidable b] : Int := if b then 1 else 0
