theorem M_next {c : Nat → Int} {n L p : Nat} (X : TXT c n) (hL : L ≤ 940) {i t : F32} {j : Nat → Int64} (ht : ∀ q, q < n → t q &&& 255 = eI (c q)) (h3 : i 3 = eI n) (h5 : i 5 = eI L) (h4 : i 4 = eI p) (hp : p ≤ n) {Q : F32 → (Nat → Int64) → Prop} (hq : ∀ i' j', (∀ q, q ≠ 4 → q ≠ 11 → q ≠ 12 → q ≠ 13 → q ≠ 14 → i' q = i q) → RTk c n L p i' j' → Q i' j') : w_LongTrainModel_next i j t Q := by
  have hn := X.n
  obtain ⟨l1, l2, l3⟩ := lf_sp (fun d => ¬ blk (c (p + d))) (min n L - p)
  unfold w_LongTrainModel_next
  refine lg_LongTrainModel_next_0 (G := Nat) (fun d i' => p + d ≤ n ∧ (∀ q, q < d → blk (c (p + q))) ∧ i' = upd i 4 (eI ((p + d : Nat) : Int))) (fun d => n - p - d) ?_ 0 ⟨by omega, fun q hq => absurd hq (Nat.not_lt_zero _), by rw [Nat.add_zero, ← h4]; funext q; by_cases e : q = 4 <;> simp [upd, e]⟩
  rintro kr d i' ⟨hd, hbl, rfl⟩ hs
  have i3 : upd i 4 (eI ((p + d : Nat) : Int)) 3 = eI n := by rw [upd_n (by omega)]; exact h3
  have i4 : upd i 4 (eI ((p + d : Nat) : Int)) 4 = eI ((p + d : Nat) : Int) := upd_s
  have i5 : upd i 4 (eI ((p + d : Nat) : Int)) 5 = eI L := by rw [upd_n (by omega)]; exact h5
  have hpk : B31 (if p + d < n then c (p + d) else -1) := by
    split
    · rename_i h; have := X.b _ h; (first | exact B31_s (by omega) (by omega) | exact B31_of _ | (constructor <;> omega))
    · (first | exact B31_s (by omega) (by omega) | exact B31_of _ | (constructor <;> omega))
  have nx : p + d < n → blk (c (p + d)) → kr (upd (upd i 4 (eI ((p + d : Nat) : Int))) 4 (upd i 4 (eI ((p + d : Nat) : Int)) 4 + 1)) := fun hlt hb => by
    rw [i4, upd_upd]
    (try simp only [eI_lit, eI_neg, eI_add, eI_sub, eI_mul, eF_ap, upd_eF])
    refine hs (d + 1) _ (by omega) ⟨by omega, fun q hq => ?_, by congr 1⟩
    by_cases e : q = d
    · subst e; exact hb
    · exact hbl q (by omega)
  have fin : (p + d < n → ¬ blk (c (p + d))) → (upd (upd (upd i 4 (eI ((p + d : Nat) : Int))) 12 (upd i 4 (eI ((p + d : Nat) : Int)) 4)) 13 0 3 ≤ upd (upd (upd i 4 (eI ((p + d : Nat) : Int))) 12 (upd i 4 (eI ((p + d : Nat) : Int)) 4)) 13 0 5 → j_LongTrainModel_next_80 (upd (upd (upd i 4 (eI ((p + d : Nat) : Int))) 12 (upd i 4 (eI ((p + d : Nat) : Int)) 4)) 13 0) j t Q) ∧ (¬ upd (upd (upd i 4 (eI ((p + d : Nat) : Int))) 12 (upd i 4 (eI ((p + d : Nat) : Int)) 4)) 13 0 3 ≤ upd (upd (upd i 4 (eI ((p + d : Nat) : Int))) 12 (upd i 4 (eI ((p + d : Nat) : Int)) 4)) 13 0 5 → (upd (upd (upd i 4 (eI ((p + d : Nat) : Int))) 12 (upd i 4 (eI ((p + d : Nat) : Int)) 4)) 13 0 4 < upd (upd (upd i 4 (eI ((p + d : Nat) : Int))) 12 (upd i 4 (eI ((p + d : Nat) : Int)) 4)) 13 0 5 → j_LongTrainModel_next_80 (upd (upd (upd i 4 (eI ((p + d : Nat) : Int))) 12 (upd i 4 (eI ((p + d : Nat) : Int)) 4)) 13 0) j t Q) ∧ (¬ upd (upd (upd i 4 (eI ((p + d : Nat) : Int))) 12 (upd i 4 (eI ((p + d : Nat) : Int)) 4)) 13 0 4 < upd (upd (upd i 4 (eI ((p + d : Nat) : Int))) 12 (upd i 4 (eI ((p + d : Nat) : Int)) 4)) 13 0 5 → Q (upd (upd (upd (upd (upd i 4 (eI ((p + d : Nat) : Int))) 12 (upd i 4 (eI ((p + d : Nat) : Int)) 4)) 13 0) 12 (upd (upd (upd i 4 (eI ((p + d : Nat) : Int))) 12 (upd i 4 (eI ((p + d : Nat) : Int)) 4)) 13 0 5)) 11 4) j)) := fun hstop => by
    rw [i4]
    generalize hI : upd (upd (upd i 4 (eI ((p + d : Nat) : Int))) 12 (eI ((p + d : Nat) : Int))) 13 0 = i6
    have k3 : i6 3 = eI n := by rw [← hI, upd_n (by omega), upd_n (by omega)]; exact i3
    have k4 : i6 4 = eI ((p + d : Nat) : Int) := by rw [← hI, upd_n (by omega), upd_n (by omega)]; exact i4
    have k5 : i6 5 = eI L := by rw [← hI, upd_n (by omega), upd_n (by omega)]; exact i5
    have k12 : i6 12 = eI ((p + d : Nat) : Int) := by rw [← hI, upd_n (by omega), upd_s]
    have k13 : i6 13 = 0 := by rw [← hI, upd_s]
    have ko : ∀ q, q ≠ 4 → q ≠ 12 → q ≠ 13 → i6 q = i q := fun q a b e => by rw [← hI, upd_n e, upd_n b, upd_n a]
    -- where the token begins
    have near : p + d < min n L → skp c (min n L) p = p + d := fun hlt => by
      unfold skp
      rw [lf_eq (m := d) (by omega) (fun q hq hno => hno (hbl q hq)) (fun _ => hstop (by omega))]
    have far : min n L ≤ p + d → min n L ≤ skp c (min n L) p := fun hge => by
      unfold skp
      by_cases hpb : min n L ≤ p
      · omega
      · have : lf (fun d => ¬ blk (c (p + d))) (min n L - p) = min n L - p := lf_eq (Nat.le_refl _) (fun q hq hno => hno (hbl q (by omega))) (fun h => absurd h (Nat.lt_irrefl _))
        omega
    have hend : min n L ≤ p + d → tkd c n (min n L) p = 0 ∧ min (skp c (min n L) p) (min n L) = min n L := fun hge => by
      have := far hge
      exact ⟨by unfold tkd; rw [if_pos this], by omega⟩
    have tok : (p + d < n → p + d < min n L) → n ≤ L ∨ p + d < L → j_LongTrainModel_next_80 i6 j t Q := fun hin hcase => by
      unfold j_LongTrainModel_next_80
      refine M_peek X ht k3 k4 hd ?_
      by_cases hlt : p + d < n
      · rw [if_pos hlt]
        have hc := X.b (p + d) hlt
        have hsk := near (hin hlt)
        have hmin : min (skp c (min n L) p) (min n L) = skp c (min n L) p := by have := hin hlt; omega
        have hnotend : ¬ min n L ≤ skp c (min n L) p := by have := hin hlt; omega
        refine q_le (a := 0) (by (first | exact B31_s (by omega) (by omega) | exact B31_of _ | (constructor <;> omega))) (by (first | exact B31_s (by omega) (by omega) | exact B31_of _ | (constructor <;> omega))) (fun _ => ?_) (fun h => by omega)
        have run : (ltr (c (p + d)) ∨ dgt (c (p + d))) → j_LongTrainModel_next_146 i6 j t (eI (c (p + d))) Q := fun hal => by
          rw [← hsk] at hal ⊢
          refine M_run (p := p) (L := L) X ht k3 (by rw [hsk]; exact k12) k13 (by rw [hsk]; exact k4) (by rw [hsk]; exact hin hlt) hal (fun i2 j2 hi2 R2 => ?_)
          exact hq _ _ (fun q a b e f g => by rw [hi2 q a b f g]; exact ko q a e f) R2
        refine M_isSmall (by (first | exact B31_s (by omega) (by omega) | exact B31_of _ | (constructor <;> omega))) (fun hl => by (first | refine z1T ?_ | refine z1N ?_); exact run (Or.inl hl)) (fun hl => ?_)
        (first | refine z0T ?_ | refine z0N ?_)
        refine M_isDigit (by (first | exact B31_s (by omega) (by omega) | exact B31_of _ | (constructor <;> omega))) (fun hdg => by (first | refine z1T ?_ | refine z1N ?_); exact run (Or.inr hdg)) (fun hdg => ?_)
        (first | refine z0T ?_ | refine z0N ?_)
        have hna : ¬ (ltr (c (skp c (min n L) p)) ∨ dgt (c (skp c (min n L) p))) := by rw [hsk]; exact fun h => h.elim hl hdg
        have hk : tkd c n (min n L) p = (if c (p + d) = 59 then 3 else if c (p + d) = 45 then 5 else 4) := by
          unfold tkd; rw [if_neg hnotend, if_neg hna, hsk]
        have keep : ∀ u v w : Int32, ∀ q, q ≠ 4 → q ≠ 11 → q ≠ 12 → q ≠ 13 → q ≠ 14 → upd (upd (upd i6 11 u) 14 v) 4 w q = i q := fun u v w q a b e f g => by rw [upd_n a, upd_n g, upd_n b]; exact ko q a e f
        have p12 : ∀ u v w : Int32, upd (upd (upd i6 11 u) 14 v) 4 w 12 = eI ((min (skp c (min n L) p) (min n L) : Nat) : Int) := fun u v w => by rw [upd_n (by omega), upd_n (by omega), upd_n (by omega), hmin, hsk]; exact k12
        have p4 : ∀ u v : Int32, upd (upd i6 11 u) 14 v 4 = eI ((p + d : Nat) : Int) := fun u v => by rw [upd_n (by omega), upd_n (by omega)]; exact k4
        rw [p4, p4]
        refine q_eq (b := 59) (by (first | exact B31_s (by omega) (by omega) | exact B31_of _ | (constructor <;> omega))) (by (first | exact B31_s (by omega) (by omega) | exact B31_of _ | (constructor <;> omega))) (fun e59 => ?_) (fun n59 => ?_)
        · rw [if_pos e59] at hk
          refine hq _ _ (keep _ _ _) ⟨p12 _ _ _, fun h => by omega, fun h => by omega, fun h => by omega, fun _ => ⟨by rw [upd_n (by omega), upd_n (by omega), upd_s], by rw [upd_n (by omega), upd_s, e59]; rfl, by rw [upd_s, hsk]; (try simp only [eI_lit, eI_neg, eI_add, eI_sub, eI_mul, eF_ap, upd_eF]); congr 1⟩, fun h => by omega, fun h => by omega⟩
        · rw [if_neg n59] at hk
          refine q_ne (b := 45) (by (first | exact B31_s (by omega) (by omega) | exact B31_of _ | (constructor <;> omega))) (by (first | exact B31_s (by omega) (by omega) | exact B31_of _ | (constructor <;> omega))) (fun n45 => ?_) (fun e45 => ?_)
          · rw [if_neg n45] at hk
            exact hq _ _ (keep _ _ _) ⟨p12 _ _ _, fun h => by omega, fun h => by omega, fun h => by omega, fun h => by omega, fun h => by omega, fun _ => by rw [upd_n (by omega), upd_n (by omega), upd_s]⟩
          · rw [if_pos e45] at hk
            exact hq _ _ (keep _ _ _) ⟨p12 _ _ _, fun h => by omega, fun h => by omega, fun h => by omega, fun h => by omega, fun _ => ⟨by rw [upd_n (by omega), upd_n (by omega), upd_s], by rw [upd_n (by omega), upd_s, e45]; rfl, by rw [upd_s, hsk]; (try simp only [eI_lit, eI_neg, eI_add, eI_sub, eI_mul, eF_ap, upd_eF]); congr 1⟩, fun h => by omega⟩
      · rw [if_neg hlt]
        have hnL : n ≤ L := by omega
        obtain ⟨hk, hm⟩ := hend (by omega)
        refine q_le (a := 0) (by (first | exact B31_s (by omega) (by omega) | exact B31_of _ | (constructor <;> omega))) (by (first | exact B31_s (by omega) (by omega) | exact B31_of _ | (constructor <;> omega))) (fun h => by omega) (fun _ => ?_)
        have en : p + d = min n L := by omega
        exact hq _ _ (fun q a b e f g => by rw [upd_n b]; exact ko q a e f) ⟨by rw [upd_n (by omega), hm, ← en]; exact k12, fun _ => by rw [upd_s, if_pos hnL]; rfl, fun h => by omega, fun h => by omega, fun h => by omega, fun h => by omega, fun h => by omega⟩
    rw [k3, k4, k5]
    refine q_le (by (first | exact B31_s (by omega) (by omega) | exact B31_of _ | (constructor <;> omega))) (by (first | exact B31_s (by omega) (by omega) | exact B31_of _ | (constructor <;> omega))) (fun h7 => tok (fun h => by omega) (Or.inl (by omega))) (fun h7 => ?_)
    refine q_lt (by (first | exact B31_s (by omega) (by omega) | exact B31_of _ | (constructor <;> omega))) (by (first | exact B31_s (by omega) (by omega) | exact B31_of _ | (constructor <;> omega))) (fun h8 => tok (fun h => by omega) (Or.inr (by omega))) (fun h8 => ?_)
    obtain ⟨hk, hm⟩ := hend (by omega)
    have eL : min n L = L := by omega
    refine hq _ _ (fun q a b e f g => by rw [upd_n b, upd_n e]; exact ko q a e f) ⟨by rw [upd_n (by omega), upd_s, hm, eL], fun _ => by rw [upd_s, if_neg (by omega)]; rfl, fun h => by omega, fun h => by omega, fun h => by omega, fun h => by omega, fun h => by omega⟩
  unfold b_LongTrainModel_next_0
  refine M_peek X ht i3 i4 hd ?_
  refine q_eq (b := 32) hpk (by (first | exact B31_s (by omega) (by omega) | exact B31_of _ | (constructor <;> omega))) (fun e32 => ?_) (fun n32 => ?_)
  · by_cases hlt : p + d < n
    · rw [if_pos hlt] at e32; exact nx hlt (Or.inl e32)
    · rw [if_neg hlt] at e32; omega
  · refine M_peek X ht i3 i4 hd ?_
    refine q_ne (b := 10) hpk (by (first | exact B31_s (by omega) (by omega) | exact B31_of _ | (constructor <;> omega))) (fun n10 => ?_) (fun e10 => ?_)
    · refine fin (fun hlt hb => ?_)
      rw [if_pos hlt] at n32 n10
      exact hb.elim n32 n10
    · by_cases hlt : p + d < n
      · rw [if_pos hlt] at e10; exact nx hlt (Or.inr e10)
      · rw [if_neg hlt] at e10; omega
