/-! loads: how many can be carried -/
def frB (b : Nat → Bool) : Nat → Int
  | 0 => 0
  | k + 1 => frB b k + if b k then 0 else 1
def cD (r : Nat → Nat) (k : Nat) : Nat → Nat → Int
  | _, 0 => 0
  | i, d + 1 => (if r i = k then 1 else 0) + cD r k (i + 1) d
def sD (r : Nat → Nat) (k : Nat) : Nat → Nat → Int
  | _, 0 => 0
  | i, d + 1 => (if 1 ≤ r i ∧ r i ≤ k then 1 else 0) + sD r k (i + 1) d
def gP (b : Nat → Bool) (r : Nat → Nat) (i d : Nat) : Nat → Int
  | 0 => 0
  | k + 1 => min (gP b r i d k + cD r (k + 1) i d) (frB b (k + 1))
def mn (f : Nat → Int) : Nat → Int
  | 0 => f 0
  | n + 1 => min (mn f n) (f (n + 1))
theorem mn_le {f : Nat → Int} : ∀ {n j : Nat}, j ≤ n → mn f n ≤ f j
  | 0, j, h => by have : j = 0 := by omega
                  subst this; exact Int.le_refl _
  | n + 1, j, h => by
    rw [mn]
    by_cases e : j = n + 1
    · subst e; omega
    · have := mn_le (f := f) (n := n) (j := j) (by omega); omega
theorem mn_ex {f : Nat → Int} : ∀ n : Nat, ∃ j, j ≤ n ∧ mn f n = f j
  | 0 => ⟨0, Nat.le_refl _, rfl⟩
  | n + 1 => by
    obtain ⟨j, hj, he⟩ := mn_ex (f := f) n
    rw [mn]
    by_cases h : mn f n ≤ f (n + 1)
    · exact ⟨j, by omega, by omega⟩
    · exact ⟨n + 1, Nat.le_refl _, by omega⟩
theorem mn_eq {f : Nat → Int} {n : Nat} {v : Int} (h1 : ∀ j, j ≤ n → v ≤ f j) (h2 : ∃ j, j ≤ n ∧ f j = v) : mn f n = v := by
  obtain ⟨j, hj, he⟩ := mn_ex (f := f) n
  obtain ⟨q, hq, hv⟩ := h2
  have a := mn_le (f := f) hq
  have b := h1 j hj
  omega
theorem sD_s (r : Nat → Nat) (k : Nat) : ∀ i d, sD r (k + 1) i d = sD r k i d + cD r (k + 1) i d
  | _, 0 => by simp [sD, cD]
  | i, d + 1 => by
    rw [sD, sD, cD, sD_s r k (i + 1) d]
    by_cases h1 : r i = k + 1
    · rw [if_pos (by omega), if_neg (by omega), if_pos h1]; omega
    · by_cases h2 : 1 ≤ r i ∧ r i ≤ k
      · rw [if_pos (by omega), if_pos h2, if_neg h1]; omega
      · rw [if_neg (by omega), if_neg h2, if_neg h1]; omega
theorem sD_0 (r : Nat → Nat) : ∀ i d, sD r 0 i d = 0
  | _, 0 => rfl
  | i, d + 1 => by rw [sD, sD_0 r (i + 1) d, if_neg (by omega)]; rfl
theorem cD_nn (r : Nat → Nat) (k : Nat) : ∀ i d, 0 ≤ cD r k i d
  | _, 0 => Int.le_refl _
  | i, d + 1 => by
    have := cD_nn r k (i + 1) d
    rw [cD]; split <;> omega
theorem sD_mono (r : Nat → Nat) (i d : Nat) : ∀ {a b : Nat}, a ≤ b → sD r a i d ≤ sD r b i d := fun {a b} h => by
  induction b with
  | zero => have : a = 0 := by omega
            subst this; exact Int.le_refl _
  | succ b ih =>
    by_cases e : a = b + 1
    · subst e; exact Int.le_refl _
    · have h1 := ih (by omega)
      have h2 := cD_nn r (b + 1) i d
      rw [sD_s]; omega
theorem gP_mn (b : Nat → Bool) (r : Nat → Nat) (i d : Nat) : ∀ k, gP b r i d k = sD r k i d + mn (fun j => frB b j - sD r j i d) k
  | 0 => by rw [gP, sD_0, mn, frB, sD_0]; rfl
  | k + 1 => by
    rw [gP, gP_mn b r i d k, mn, sD_s]
    omega
def gG (b : Nat → Bool) (r : Nat → Nat) (i d : Nat) : Int := gP b r i d 8
theorem frB_up {b b' : Nat → Bool} {w : Nat} (hw : b w = false) (h : ∀ k, b' k = (b k || decide (k = w))) : ∀ j, frB b' j = frB b j - if w < j then 1 else 0
  | 0 => by simp [frB]
  | j + 1 => by
    rw [frB, frB, frB_up hw h j, h j]
    by_cases e : j = w
    · subst e; rw [hw, if_neg (Nat.lt_irrefl _), if_pos (Nat.lt_succ_self _)]; simp
    · have e2 : decide (j = w) = false := by simp [e]
      rw [e2, Bool.or_false]
      by_cases h2 : w < j
      · rw [if_pos h2, if_pos (show w < j + 1 by omega)]; omega
      · rw [if_neg h2, if_neg (show ¬ w < j + 1 by omega)]; omega
theorem frB_no {b : Nat → Bool} {a : Nat} : ∀ c, a ≤ c → (∀ w, a ≤ w → w < c → b w = true) → frB b c = frB b a
  | 0, h, _ => by have : a = 0 := by omega
                  subst this; rfl
  | c + 1, h, hb => by
    by_cases e : a = c + 1
    · subst e; rfl
    · rw [frB, hb c (by omega) (by omega), frB_no c (by omega) (fun w h1 h2 => hb w h1 (by omega))]; simp
theorem greatest {P : Nat → Prop} : ∀ n, (∃ k, k ≤ n ∧ P k) → ∃ k, k ≤ n ∧ P k ∧ ∀ j, k < j → j ≤ n → ¬ P j
  | 0, ⟨k, hk, hp⟩ => ⟨k, hk, hp, fun j h1 h2 => by omega⟩
  | n + 1, ⟨k, hk, hp⟩ => by
    by_cases h : P (n + 1)
    · exact ⟨n + 1, Nat.le_refl _, h, fun j h1 h2 => by omega⟩
    · obtain ⟨q, hq, hpq, hm⟩ := greatest n ⟨k, by
        rcases Nat.lt_or_ge k (n + 1) with h1 | h1
        · omega
        · have : k = n + 1 := by omega
          subst this; exact absurd hp h, hp⟩
      refine ⟨q, by omega, hpq, fun j h1 h2 => ?_⟩
      by_cases e : j = n + 1
      · subst e; exact h
      · exact hm j h1 (by omega)
/-- the recursion that the reference's table follows -/
theorem gG_s {b : Nat → Bool} {r : Nat → Nat} {i d : Nat} (h8 : r i ≤ 8) : gG b r i (d + 1) = sD r 8 (i + 1) d + mn (fun j => frB b j - sD r j (i + 1) d + if 1 ≤ r i ∧ j < r i then 1 else 0) 8 := by
  unfold gG
  rw [gP_mn]
  rw [sD]
  obtain ⟨q, hq, he⟩ := mn_ex (f := fun j => frB b j - sD r j (i + 1) d + if 1 ≤ r i ∧ j < r i then 1 else 0) 8
  have e : mn (fun j => frB b j - sD r j i (d + 1)) 8 = mn (fun j => frB b j - sD r j (i + 1) d + if 1 ≤ r i ∧ j < r i then 1 else 0) 8 - (if 1 ≤ r i ∧ r i ≤ 8 then 1 else 0) := by
    have key : ∀ j, j ≤ 8 → frB b j - sD r j i (d + 1) = (frB b j - sD r j (i + 1) d + if 1 ≤ r i ∧ j < r i then 1 else 0) - (if 1 ≤ r i ∧ r i ≤ 8 then 1 else 0) := fun j hj => by
      rw [sD]
      by_cases h1 : 1 ≤ r i
      · by_cases h2 : j < r i
        · rw [if_neg (by omega), if_pos ⟨h1, h2⟩, if_pos ⟨h1, h8⟩]; omega
        · rw [if_pos (by omega), if_neg (by omega), if_pos ⟨h1, h8⟩]; omega
      · rw [if_neg (by omega), if_neg (by omega), if_neg (by omega)]; omega
    refine mn_eq (fun j hj => ?_) ⟨q, hq, ?_⟩
    · rw [key j hj]
      have := mn_le (f := fun j => frB b j - sD r j (i + 1) d + if 1 ≤ r i ∧ j < r i then 1 else 0) hj
      omega
    · rw [key q hq, he]
  rw [e]; omega
theorem gG_lo {b : Nat → Bool} {r : Nat → Nat} {i d : Nat} (h8 : r i ≤ 8) : gG b r (i + 1) d ≤ gG b r i (d + 1) := by
  rw [gG_s h8]
  unfold gG
  rw [gP_mn]
  obtain ⟨q, hq, he⟩ := mn_ex (f := fun j => frB b j - sD r j (i + 1) d + if 1 ≤ r i ∧ j < r i then 1 else 0) 8
  have h1 := mn_le (f := fun j => frB b j - sD r j (i + 1) d) hq
  rw [he]
  split <;> omega
theorem gG_up {b b' : Nat → Bool} {r : Nat → Nat} {i d w : Nat} (h8 : r i ≤ 8) (hw : w < r i) (hf : b w = false) (h : ∀ k, b' k = (b k || decide (k = w))) : 1 + gG b' r (i + 1) d ≤ gG b r i (d + 1) := by
  rw [gG_s h8]
  unfold gG
  rw [gP_mn]
  obtain ⟨q, hq, he⟩ := mn_ex (f := fun j => frB b j - sD r j (i + 1) d + if 1 ≤ r i ∧ j < r i then 1 else 0) 8
  have h1 := mn_le (f := fun j => frB b' j - sD r j (i + 1) d) hq
  rw [he]
  rw [frB_up hf h q] at h1
  by_cases hq2 : q < r i
  · rw [if_pos ⟨by omega, hq2⟩]
    split at h1 <;> omega
  · rw [if_neg (by omega)]
    rw [if_pos (by omega)] at h1
    omega
theorem gG_at {b : Nat → Bool} {r : Nat → Nat} {i d : Nat} (h8 : r i ≤ 8) : gG b r i (d + 1) = gG b r (i + 1) d ∨ ∃ w, w < r i ∧ b w = false ∧ ∀ b' : Nat → Bool, (∀ k, b' k = (b k || decide (k = w))) → gG b r i (d + 1) = 1 + gG b' r (i + 1) d := by
  rw [gG_s h8]
  have e1 : gG b r (i + 1) d = sD r 8 (i + 1) d + mn (fun j => frB b j - sD r j (i + 1) d) 8 := gP_mn b r (i + 1) d 8
  rw [e1]
  obtain ⟨q, hq, he⟩ := mn_ex (f := fun j => frB b j - sD r j (i + 1) d + if 1 ≤ r i ∧ j < r i then 1 else 0) 8
  obtain ⟨k0, hk0, hk1, hk2⟩ := greatest (P := fun j => frB b j - sD r j (i + 1) d = mn (fun j => frB b j - sD r j (i + 1) d) 8) 8 (by
    obtain ⟨j, hj, hj2⟩ := mn_ex (f := fun j => frB b j - sD r j (i + 1) d) 8
    exact ⟨j, hj, hj2.symm⟩)
  have lo : ∀ j, j ≤ 8 → mn (fun j => frB b j - sD r j (i + 1) d) 8 ≤ frB b j - sD r j (i + 1) d := fun j hj => mn_le (f := fun j => frB b j - sD r j (i + 1) d) hj
  have lo2 : ∀ j, j ≤ 8 → mn (fun j => frB b j - sD r j (i + 1) d + if 1 ≤ r i ∧ j < r i then 1 else 0) 8 ≤ frB b j - sD r j (i + 1) d + if 1 ≤ r i ∧ j < r i then 1 else 0 := fun j hj => mn_le (f := fun j => frB b j - sD r j (i + 1) d + if 1 ≤ r i ∧ j < r i then 1 else 0) hj
  generalize hμ : mn (fun j => frB b j - sD r j (i + 1) d) 8 = μ at *
  generalize hν : mn (fun j => frB b j - sD r j (i + 1) d + if 1 ≤ r i ∧ j < r i then 1 else 0) 8 = ν at *
  by_cases heq : ν = μ
  · left; rw [heq]
  · right
    have hk0r : 1 ≤ r i ∧ k0 < r i := by
      have h1 := lo2 k0 hk0
      have h2 := lo q hq
      by_cases hc : 1 ≤ r i ∧ k0 < r i
      · exact hc
      · rw [if_neg hc] at h1
        rw [he] at heq h1
        split at heq <;> split at h1 <;> omega
    have hν1 : ν = μ + 1 := by
      have h1 := lo2 k0 hk0
      have h2 := lo q hq
      rw [if_pos hk0r] at h1
      rw [he] at heq h1 ⊢
      split at heq <;> split at h1 <;> (try split) <;> omega
    have hw : ∃ w, k0 ≤ w ∧ w < r i ∧ b w = false := by
      refine Classical.byContradiction fun hno => ?_
      have hall : ∀ w, k0 ≤ w → w < r i → b w = true := fun w h1 h2 => by
        cases hb : b w with
        | true => rfl
        | false => exact absurd ⟨w, h1, h2, hb⟩ hno
      have e2 := frB_no (r i) (by omega) hall
      have h3 := sD_mono r (i + 1) d (a := k0) (b := r i) (by omega)
      have h4 := lo (r i) h8
      exact hk2 (r i) hk0r.2 h8 (by omega)
    obtain ⟨w, hw1, hw2, hwb⟩ := hw
    refine ⟨w, hw2, hwb, fun b' hb' => ?_⟩
    have e3 : gG b' r (i + 1) d = sD r 8 (i + 1) d + mn (fun j => frB b' j - sD r j (i + 1) d) 8 := gP_mn b' r (i + 1) d 8
    have e4 : mn (fun j => frB b' j - sD r j (i + 1) d) 8 = μ := by
      refine mn_eq (fun j hj => ?_) ⟨k0, hk0, ?_⟩
      · rw [frB_up hwb hb' j]
        have h5 := lo j hj
        by_cases hj2 : w < j
        · rw [if_pos hj2]
          have h6 := hk2 j (by omega) hj
          omega
        · rw [if_neg hj2]; omega
      · rw [frB_up hwb hb' k0, if_neg (by omega)]; omega
    rw [e3, e4, hν1]; omega
theorem gG_0 (b : Nat → Bool) (r : Nat → Nat) (i : Nat) : gG b r i 0 = 0 := by
  have nn : ∀ k, 0 ≤ frB b k := fun k => by
    induction k with
    | zero => exact Int.le_refl _
    | succ k ih => rw [frB]; split <;> omega
  have : ∀ k, gP b r i 0 k = 0 := fun k => by
    induction k with
    | zero => rfl
    | succ k ih =>
      rw [gP, ih]
      have h1 : cD r (k + 1) i 0 = 0 := rfl
      have h2 := nn (k + 1)
      rw [h1]; omega
  exact this 8
theorem gG_bd (b : Nat → Bool) (r : Nat → Nat) : ∀ (d i : Nat), (∀ q, r q ≤ 8) → 0 ≤ gG b r i d ∧ gG b r i d ≤ d
  | 0, i, _ => by rw [gG_0]; omega
  | d + 1, i, h => by
    have h1 := gG_bd b r d (i + 1) h
    have h2 := gG_lo (b := b) (d := d) (h i)
    refine ⟨by omega, ?_⟩
    rcases gG_at (b := b) (d := d) (h i) with he | ⟨w, _, _, he⟩
    · rw [he]; omega
    · rw [he (fun k => (b k || decide (k = w))) (fun _ => rfl)]
      have := gG_bd (fun k => (b k || decide (k = w))) r d (i + 1) h
      omega
