/-! longest: what can't be better -/
noncomputable def stp (σ : Nat → Int) (g : Nat) (X : RW) : RW := if 0 ≤ adN σ (hb σ g) ((g : Int) + 1) then (wrX σ X ((g : Int) + 1)).ins X.n (adN σ (hb σ g) ((g : Int) + 1)) (ST σ (adN σ (hb σ g) ((g : Int) + 1))) else wrX σ X ((g : Int) + 1)
def LB (σ : Nat → Int) (b : Int) : Nat → Nat → RW → Nat → Prop
  | 0, _, _, n => (n : Int) ≤ b
  | f + 1, g, X, n => (ptL σ X ((g : Int) + 1) < X.n → (n : Int) ≤ b) ∧ (¬ ptL σ X ((g : Int) + 1) < X.n →
      (0 ≤ adN σ (hb σ g) ((g : Int) + 1) → (n < 4 → ∀ q, q ≤ X.n → LB σ b f (g + 1) ((wrX σ X ((g : Int) + 1)).ins q (adN σ (hb σ g) ((g : Int) + 1)) (ST σ (adN σ (hb σ g) ((g : Int) + 1)))) (n + 1)) ∧ (¬ n < 4 → LB σ b f (g + 1) ((wrX σ X ((g : Int) + 1)).ins X.n (adN σ (hb σ g) ((g : Int) + 1)) (ST σ (adN σ (hb σ g) ((g : Int) + 1)))) (n + 1))) ∧
      (¬ 0 ≤ adN σ (hb σ g) ((g : Int) + 1) → LB σ b f (g + 1) (wrX σ X ((g : Int) + 1)) n))
theorem fd_id {α : Type} {F : Nat → α → α} {a : α} : ∀ k : Nat, (∀ q, q < k → F q a = a) → fd F k a = a
  | 0, _ => rfl
  | k + 1, h => by rw [fd, fd_id k (fun q hq => h q (by omega))]; exact h k (by omega)
theorem srch_id {σ : Nat → Int} {A : AC} : ∀ (f g : Nat) (X : RW) (n : Nat) (pc : Nat → Nat), LB σ A.1 f g X n → srch σ f g X n pc A = A
  | 0, g, X, n, pc, h => by
    rw [LB] at h
    rw [srch]; unfold lfA; rw [if_neg (by omega)]
  | f + 1, g, X, n, pc, h => by
    rw [LB] at h
    rw [srch]
    by_cases hp : ptL σ X ((g : Int) + 1) < X.n
    · have := h.1 hp
      rw [if_pos hp]; unfold lfA; rw [if_neg (by omega)]
    · rw [if_neg hp]
      by_cases ha : 0 ≤ adN σ (hb σ g) ((g : Int) + 1)
      · rw [if_pos ha]
        by_cases h4 : n < 4
        · rw [if_pos h4]
          exact fd_id _ (fun q hq => srch_id f _ _ _ _ (((h.2 hp).1 ha).1 h4 q (by omega)))
        · rw [if_neg h4]
          exact srch_id f _ _ _ _ (((h.2 hp).1 ha).2 h4)
      · rw [if_neg ha]
        exact srch_id f _ _ _ _ ((h.2 hp).2 ha)
/-- how many of d halts from a on add -/
def cn (σ : Nat → Int) : Nat → Nat → Nat
  | _, 0 => 0
  | a, d + 1 => (if 0 ≤ AD σ a then 1 else 0) + cn σ (a + 1) d
theorem cn_sp {σ : Nat → Int} : ∀ (e a d : Nat), cn σ a (e + d) = cn σ a e + cn σ (a + e) d
  | 0, a, d => by rw [Nat.zero_add, cn, Nat.zero_add, Nat.add_zero]
  | e + 1, a, d => by
    have e1 : e + 1 + d = (e + d) + 1 := by omega
    have e2 : a + (e + 1) = a + 1 + e := by omega
    rw [e1, cn, cn_sp e (a + 1) d, cn, e2]; omega
theorem cn_r {σ : Nat → Int} (a d : Nat) : cn σ a (d + 1) = cn σ a d + (if 0 ≤ AD σ (a + d : Nat) then 1 else 0) := by
  rw [cn_sp d a 1, cn, cn, Nat.add_zero]
theorem cn_le {σ : Nat → Int} : ∀ (a d : Nat), cn σ a d ≤ d
  | a, 0 => by rw [cn]; omega
  | a, d + 1 => by
    have := cn_le (σ := σ) (a + 1) d
    rw [cn]; split <;> omega
/-- halts that add ahead of a head -/
noncomputable def rm (σ : Nat → Int) (g : Nat) : Nat := cn σ (hb σ g) ((σ 1).toNat - hb σ g)
theorem hb_s {σ : Nat → Int} (O : LOk σ) (g : Nat) : (0 ≤ adN σ (hb σ g) ((g : Int) + 1) ∧ hb σ ((g + 1 : Nat) : Int) = hb σ g + 1 ∧ (hb σ g : Int) < σ 1 ∧ adN σ (hb σ g) ((g : Int) + 1) = AD σ (hb σ g) ∧ AT σ (hb σ g) = (g : Int) + 1 ∧ cn σ (hb σ g) (hb σ ((g + 1 : Nat) : Int) - hb σ g) = 1) ∨ (¬ 0 ≤ adN σ (hb σ g) ((g : Int) + 1) ∧ hb σ g ≤ hb σ ((g + 1 : Nat) : Int) ∧ cn σ (hb σ g) (hb σ ((g + 1 : Nat) : Int) - hb σ g) = 0) := by
  have hc : ((g + 1 : Nat) : Int) = (g : Int) + 1 := by omega
  have hnx := hb_next O (g := (g : Int)) (by omega)
  rw [hc]
  by_cases ha : 0 ≤ adN σ (hb σ g) ((g : Int) + 1)
  · obtain ⟨c1, c2, c3, c4⟩ := adN_hb O (by omega) ha
    refine Or.inl ⟨ha, c4, c1, c3, c2, ?_⟩
    rw [c4]
    have e1 : hb σ g + 1 - hb σ g = 0 + 1 := by omega
    rw [e1, cn, cn, if_pos (by omega)]
  · refine Or.inr ⟨ha, ?_, ?_⟩
    · rw [← hnx]; unfold nhN; split <;> omega
    · rw [← hnx]
      unfold nhN
      unfold adN at ha
      by_cases hcc : ((hb σ g : Nat) : Int) < σ 1 ∧ AT σ (hb σ g) = (g : Int) + 1
      · rw [if_pos hcc] at ha ⊢
        have e1 : hb σ g + 1 - hb σ g = 0 + 1 := by omega
        rw [e1, cn, cn, if_neg ha]
      · rw [if_neg hcc]
        have e1 : hb σ g - hb σ g = 0 := by omega
        rw [e1, cn]
theorem rm_s {σ : Nat → Int} (O : LOk σ) (g : Nat) : rm σ g = (if 0 ≤ adN σ (hb σ g) ((g : Int) + 1) then 1 else 0) + rm σ (g + 1) := by
  have hl := hb_le O ((g + 1 : Nat) : Int)
  have hh := O.hc
  have hle : hb σ g ≤ hb σ ((g + 1 : Nat) : Int) := hb_mono O (by omega)
  unfold rm
  have e1 : (σ 1).toNat - hb σ g = (hb σ ((g + 1 : Nat) : Int) - hb σ g) + ((σ 1).toNat - hb σ ((g + 1 : Nat) : Int)) := by omega
  have e2 : hb σ g + (hb σ ((g + 1 : Nat) : Int) - hb σ g) = hb σ ((g + 1 : Nat) : Int) := by omega
  rw [e1, cn_sp, e2]
  rcases hb_s O g with ⟨a, _, _, _, _, c⟩ | ⟨a, _, c⟩
  · rw [c, if_pos a]
  · rw [c, if_neg a]
theorem LB_most {σ : Nat → Int} (O : LOk σ) {b : Int} : ∀ (f g : Nat) (X : RW) (n : Nat), (n : Int) + rm σ g ≤ b → LB σ b f g X n
  | 0, g, X, n, h => by rw [LB]; omega
  | f + 1, g, X, n, h => by
    have hs := rm_s O g
    rw [LB]
    refine ⟨fun _ => by omega, fun _ => ⟨fun ha => ⟨fun _ q _ => LB_most O f _ _ _ ?_, fun _ => LB_most O f _ _ _ ?_⟩, fun ha => LB_most O f _ _ _ ?_⟩⟩
    · rw [if_pos ha] at hs; omega
    · rw [if_pos ha] at hs; omega
    · rw [if_neg ha] at hs; omega
/-- a ride with all at the end -/
noncomputable def rX (σ : Nat → Int) : Nat → Nat → RW → RW
  | 0, _, X => X
  | t + 1, g, X => rX σ t (g + 1) (stp σ g X)
noncomputable def acN (σ : Nat → Int) : Nat → Nat → Nat
  | 0, _ => 0
  | t + 1, g => (if 0 ≤ adN σ (hb σ g) ((g : Int) + 1) then 1 else 0) + acN σ t (g + 1)
theorem LB_ride {σ : Nat → Int} {b : Int} : ∀ (t f g : Nat) (X : RW) (n : Nat), t + 1 ≤ f → ptL σ (rX σ t g X) (((g + t : Nat) : Int) + 1) < (rX σ t g X).n → (n : Int) + acN σ t g ≤ b → (n < 4 → acN σ t g = 0) → LB σ b f g X n
  | 0, f, g, X, n, hf, hp, hb', h4 => by
    obtain ⟨f', rfl⟩ : ∃ f', f = f' + 1 := ⟨f - 1, by omega⟩
    rw [acN] at hb'
    rw [rX] at hp
    rw [LB]
    exact ⟨fun _ => by omega, fun h => absurd hp h⟩
  | t + 1, f, g, X, n, hf, hp, hb', h4 => by
    obtain ⟨f', rfl⟩ : ∃ f', f = f' + 1 := ⟨f - 1, by omega⟩
    rw [acN] at hb' h4
    rw [rX] at hp
    have eg : g + (t + 1) = g + 1 + t := by omega
    rw [eg] at hp
    rw [LB]
    refine ⟨fun _ => by omega, fun hn => ⟨fun ha => ⟨fun hn4 => ?_, fun hn4 => ?_⟩, fun ha => ?_⟩⟩
    · have := h4 hn4
      rw [if_pos ha] at this; omega
    · rw [if_pos ha] at hb'
      unfold stp at hp
      rw [if_pos ha] at hp
      exact LB_ride t f' (g + 1) _ (n + 1) (by omega) hp (by omega) (fun h => by omega)
    · rw [if_neg ha] at hb' h4
      unfold stp at hp
      rw [if_neg ha] at hp
      exact LB_ride t f' (g + 1) _ n (by omega) hp (by omega) (fun h => by have := h4 h; omega)
theorem acN_cn {σ : Nat → Int} (O : LOk σ) : ∀ (t g : Nat), hb σ g ≤ hb σ ((g + t : Nat) : Int) ∧ acN σ t g = cn σ (hb σ g) (hb σ ((g + t : Nat) : Int) - hb σ g)
  | 0, g => by
    rw [Nat.add_zero, acN, Nat.sub_self, cn]
    exact ⟨Nat.le_refl _, rfl⟩
  | t + 1, g => by
    obtain ⟨h1, h2⟩ := acN_cn O t (g + 1)
    have eg : g + (t + 1) = g + 1 + t := by omega
    rw [eg, acN, h2]
    have hle : hb σ g ≤ hb σ ((g + 1 : Nat) : Int) := hb_mono O (by omega)
    have e1 : hb σ ((g + 1 + t : Nat) : Int) - hb σ g = (hb σ ((g + 1 : Nat) : Int) - hb σ g) + (hb σ ((g + 1 + t : Nat) : Int) - hb σ ((g + 1 : Nat) : Int)) := by omega
    have e2 : hb σ g + (hb σ ((g + 1 : Nat) : Int) - hb σ g) = hb σ ((g + 1 : Nat) : Int) := by omega
    refine ⟨by omega, ?_⟩
    rw [e1, cn_sp, e2]
    rcases hb_s O g with ⟨a, _, _, _, _, c⟩ | ⟨a, _, c⟩
    · rw [c, if_pos a]
    · rw [c, if_neg a]
/-! the row as it will be, and since when -/
noncomputable def apX (σ : Nat → Int) (a : Nat) (X : RW) : Nat → RW
  | 0 => X
  | m + 1 => if 0 ≤ AD σ (a + m : Nat) then (apX σ a X m).ins (apX σ a X m).n (AD σ (a + m : Nat)) (ST σ (AD σ (a + m : Nat))) else apX σ a X m
noncomputable def snc (σ : Nat → Int) (a : Nat) (X : RW) (g : Int) : Nat → Nat → Int
  | 0 => fun _ => g
  | m + 1 => if 0 ≤ AD σ (a + m : Nat) then updI (snc σ a X g m) (apX σ a X m).n (AT σ (a + m : Nat)) else snc σ a X g m
theorem apX_n {σ : Nat → Int} {a : Nat} {X : RW} : ∀ m : Nat, (apX σ a X m).n = X.n + cn σ a m
  | 0 => by rw [apX, cn]; omega
  | m + 1 => by
    have ih := apX_n (σ := σ) (a := a) (X := X) m
    rw [cn_r, apX]
    split
    · show (apX σ a X m).n + 1 = _; omega
    · omega
theorem apX_p {σ : Nat → Int} {a : Nat} {X : RW} {j : Nat} (m : Nat) (hj : j < (apX σ a X m).n) : (apX σ a X (m + 1)).k j = (apX σ a X m).k j ∧ (apX σ a X (m + 1)).s j = (apX σ a X m).s j ∧ (apX σ a X (m + 1)).w j = (apX σ a X m).w j ∧ ∀ g, snc σ a X g (m + 1) j = snc σ a X g m j := by
  rw [apX]
  by_cases h : 0 ≤ AD σ (a + m : Nat)
  · rw [if_pos h]
    refine ⟨insF_lt hj, insF_lt hj, insF_lt hj, fun g => ?_⟩
    rw [snc, if_pos h, updI_n _ (by omega)]
  · rw [if_neg h]
    refine ⟨rfl, rfl, rfl, fun g => ?_⟩
    rw [snc, if_neg h]
theorem apX_q {σ : Nat → Int} {a : Nat} {X : RW} {j m : Nat} : ∀ d : Nat, j < (apX σ a X m).n → j < (apX σ a X (m + d)).n ∧ (apX σ a X (m + d)).k j = (apX σ a X m).k j ∧ (apX σ a X (m + d)).s j = (apX σ a X m).s j ∧ (apX σ a X (m + d)).w j = (apX σ a X m).w j ∧ ∀ g, snc σ a X g (m + d) j = snc σ a X g m j
  | 0, hj => ⟨hj, rfl, rfl, rfl, fun _ => rfl⟩
  | d + 1, hj => by
    obtain ⟨h0, h1, h2, h3, h4⟩ := apX_q d hj
    have := apX_p (m + d) h0
    have e : m + (d + 1) = m + d + 1 := by omega
    rw [e]
    refine ⟨?_, this.1.trans h1, this.2.1.trans h2, this.2.2.1.trans h3, fun g => (this.2.2.2 g).trans (h4 g)⟩
    have e1 := apX_n (σ := σ) (a := a) (X := X) (m + d)
    have e2 := apX_n (σ := σ) (a := a) (X := X) (m + d + 1)
    rw [cn_r] at e2
    split at e2 <;> omega
