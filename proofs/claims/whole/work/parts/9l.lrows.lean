/-! line: a row -/
theorem oX_gt {e : TXX} {p : Nat} (h : oK e p ≠ 0) : p + 1 ≤ oX e p := by
  have hs : p ≤ oS e p := by rw [oS_d]; unfold skp; omega
  have hlt := oK_lt h
  rw [oX_d]
  by_cases hc : oK e p = 1 ∨ oK e p = 2
  · rw [if_pos hc]
    have hn : 1 ≤ oN e p := by
      rw [oN_d]
      have hch : ltr (e.1 (oS e p)) ∨ dgt (e.1 (oS e p)) := by
        rw [oK_d] at hc
        rw [oS_d]
        unfold tkd at hc
        split at hc
        · omega
        split at hc
        · assumption
        · split at hc
          · omega
          split at hc <;> omega
      obtain ⟨l1, l2, l3⟩ := lf_sp (fun d => ¬ (ltr (e.1 (oS e p + d)) ∨ dgt (e.1 (oS e p + d)))) (e.2.1 - oS e p)
      unfold rnL
      by_cases h0 : lf (fun d => ¬ (ltr (e.1 (oS e p + d)) ∨ dgt (e.1 (oS e p + d)))) (e.2.1 - oS e p) = 0
      · have := l3 (by omega)
        rw [h0] at this
        exact absurd hch this
      · omega
    omega
  · rw [if_neg hc]; omega
def P4 (r : RS) : Prop := r.1 ≤ 4
theorem flt_P {k p : Nat} (h : k ≤ 4) : P4 (flt k p) := h
theorem numS_P {e : TXX} {p : Nat} {lo hi : Int} {k : RS} (h : oK e p = 2 → P4 k) : P4 (numS e p lo hi k) := by
  unfold numS
  by_cases h2 : oK e p = 2
  · rw [if_neg (by omega)]
    split
    · exact flt_P (by omega)
    · exact h h2
  · rw [if_pos h2]; exact flt_P (by omega)
theorem semS_P {e : TXX} {p : Nat} {k : RS} (h : oK e p = 3 → P4 k) : P4 (semS e p k) := by
  unfold semS
  split
  · rename_i h3; exact h h3
  · exact flt_P (by omega)
theorem namS_P {e : TXX} {p : Nat} {k : RS} (h : oK e p = 1 → P4 k) : P4 (namS e p k) := by
  unfold namS
  split
  · rename_i h3; exact h h3.1
  · exact flt_P (by omega)
theorem ite_P {c : Prop} {d : Decidable c} {a b : RS} (ha : c → P4 a) (hb : ¬ c → P4 b) : P4 (@ite RS c d a b) := by
  split
  · rename_i h; exact ha h
  · rename_i h; exact hb h
theorem frS_P {e : TXX} {p : Nat} {S : LRS} {k : RS} (h : oK e p = 1 → P4 k) : P4 (frS e p S k) := by
  unfold frS
  exact namS_P (fun h1 => ite_P (fun _ => flt_P (by omega)) (fun _ => h h1))
theorem slB_P {e : TXX} {p : Nat} {sg : Int} {S : LRS} {k : Nat → LRS → RS} (h : ∀ p' S', p + 2 ≤ p' → P4 (k p' S')) : P4 (slB e p sg S k) := by
  unfold slB
  refine numS_P (fun h1 => numS_P (fun h2 => ite_P (fun _ => flt_P (by omega)) (fun _ => semS_P (fun h3 => h _ _ ?_))))
  have a1 := oX_gt (e := e) (p := p) (by omega)
  have a2 := oX_gt (e := e) (p := oX e p) (by omega)
  have a3 := oX_gt (e := e) (p := oX e (oX e p)) (by omega)
  omega
theorem slS_P {e : TXX} {p : Nat} {S : LRS} {k : Nat → LRS → RS} (h0 : oK e p = 1) (h : ∀ p' S', p + 2 ≤ p' → P4 (k p' S')) : P4 (slS e p S k) := by
  have a1 := oX_gt (e := e) (p := p) (by omega)
  unfold slS
  refine ite_P (fun _ => flt_P (by omega)) (fun _ => ite_P (fun h5 => slB_P (fun p' S' hp => h p' S' ?_)) (fun _ => slB_P (fun p' S' hp => h p' S' (by omega))))
  have a2 := oX_gt (e := e) (p := oX e p) (by omega)
  omega
theorem hlS_P {e : TXX} {p : Nat} {S : LRS} {k : Nat → LRS → RS} (h0 : oK e p = 1) (h : ∀ p' S', p + 2 ≤ p' → P4 (k p' S')) : P4 (hlS e p S k) := by
  unfold hlS
  refine ite_P (fun _ => flt_P (by omega)) (fun _ => frS_P (fun h1 => numS_P (fun h2 => numS_P (fun h3 => semS_P (fun h4 => h _ _ ?_)))))
  have a1 := oX_gt (e := e) (p := p) (by omega)
  have a2 := oX_gt (e := e) (p := oX e p) (by omega)
  have a3 := oX_gt (e := e) (p := oX e (oX e p)) (by omega)
  have a4 := oX_gt (e := e) (p := oX e (oX e (oX e p))) (by omega)
  have a5 := oX_gt (e := e) (p := oX e (oX e (oX e (oX e p)))) (by omega)
  omega
theorem kiS_P {e : TXX} {p : Nat} {S : LRS} {k : Nat → LRS → RS} (h0 : oK e p = 1) (h : ∀ p' S', p + 2 ≤ p' → P4 (k p' S')) : P4 (kiS e p S k) := by
  unfold kiS
  refine ite_P (fun _ => flt_P (by omega)) (fun _ => frS_P (fun h1 => numS_P (fun h2 => numS_P (fun h3 => numS_P (fun h35 => semS_P (fun h4 => h _ _ ?_))))))
  have a1 := oX_gt (e := e) (p := p) (by omega)
  have a2 := oX_gt (e := e) (p := oX e p) (by omega)
  have a3 := oX_gt (e := e) (p := oX e (oX e p)) (by omega)
  have a4 := oX_gt (e := e) (p := oX e (oX e (oX e p))) (by omega)
  have a5 := oX_gt (e := e) (p := oX e (oX e (oX e (oX e p)))) (by omega)
  have a6 := oX_gt (e := e) (p := oX e (oX e (oX e (oX e (oX e p))))) (by omega)
  omega
theorem adS_P {e : TXX} {p : Nat} {S : LRS} {k : Nat → LRS → RS} (h0 : oK e p = 1) (h : ∀ p' S', p + 2 ≤ p' → P4 (k p' S')) : P4 (adS e p S k) := by
  unfold adS
  refine namS_P (fun h1 => ite_P (fun _ => flt_P (by omega)) (fun _ => namS_P (fun h2 => ite_P (fun _ => flt_P (by omega)) (fun _ => semS_P (fun h4 => h _ _ ?_)))))
  have a1 := oX_gt (e := e) (p := p) (by omega)
  have a2 := oX_gt (e := e) (p := oX e p) (by omega)
  have a3 := oX_gt (e := e) (p := oX e (oX e p)) (by omega)
  have a4 := oX_gt (e := e) (p := oX e (oX e (oX e p))) (by omega)
  omega
theorem onS_P {e : TXX} {p q : Nat} {S : LRS} {k : RS} (h : P4 k) : P4 (onS e p q S k) := by
  unfold onS
  exact ite_P (fun _ => flt_P (by omega)) (fun _ => h)
theorem kpB_P {e : TXX} {p c : Nat} {lo hi : Int} {S : LRS} {k : Nat → LRS → RS} (h : ∀ p' S', p + 2 ≤ p' → P4 (k p' S')) : P4 (kpB e p c lo hi S k) := by
  unfold kpB
  refine numS_P (fun h1 => semS_P (fun h4 => h _ _ ?_))
  have a1 := oX_gt (e := e) (p := p) (by omega)
  have a2 := oX_gt (e := e) (p := oX e p) (by omega)
  omega
theorem enB_P {e : TXX} {p : Nat} {S : LRS} {k : Nat → LRS → RS} (h : ∀ p' S', p + 2 ≤ p' → P4 (k p' S')) : P4 (enB e p S k) := by
  unfold enB
  refine numS_P (fun h1 => numS_P (fun h2 => semS_P (fun h4 => h _ _ ?_)))
  have a1 := oX_gt (e := e) (p := p) (by omega)
  have a2 := oX_gt (e := e) (p := oX e p) (by omega)
  have a3 := oX_gt (e := e) (p := oX e (oX e p)) (by omega)
  omega
theorem trB_P {e : TXX} {k : Nat → LRS → RS} : ∀ (g p : Nat) (S : LRS), (∀ p' S', p + 2 ≤ p' → P4 (k p' S')) → P4 (trB e g p S k)
  | 0, p, S, _ => by rw [trB]; exact flt_P (by omega)
  | g + 1, p, S, h => by
    rw [trB]
    refine namS_P (fun h1 => ite_P (fun _ => flt_P (by omega)) (fun _ => ite_P (fun _ => flt_P (by omega)) (fun _ => ite_P (fun h3 => h _ _ ?_) (fun _ => trB_P g _ _ (fun p' S' hp => h p' S' ?_)))))
    · have a1 := oX_gt (e := e) (p := p) (by omega)
      have a2 := oX_gt (e := e) (p := oX e p) (by omega)
      omega
    · have a1 := oX_gt (e := e) (p := p) (by omega)
      omega
theorem loS_P {e : TXX} {p : Nat} {S : LRS} {k : Nat → LRS → RS} (h0 : oK e p = 1) (h : ∀ p' S', p + 2 ≤ p' → P4 (k p' S')) : P4 (loS e p S k) := by
  unfold loS
  refine ite_P (fun _ => flt_P (by omega)) (fun _ => numS_P (fun h1 => ite_P (fun _ => flt_P (by omega)) (fun _ => numS_P (fun h2 => semS_P (fun h4 => h _ _ ?_)))))
  have a1 := oX_gt (e := e) (p := p) (by omega)
  have a2 := oX_gt (e := e) (p := oX e p) (by omega)
  have a3 := oX_gt (e := e) (p := oX e (oX e p)) (by omega)
  have a4 := oX_gt (e := e) (p := oX e (oX e (oX e p))) (by omega)
  omega
noncomputable def rowS (e : TXX) (p : Nat) (S : LRS) (k : Nat → LRS → RS) : RS :=
  if kwd e p = 0 then slS e p S k else if kwd e p = 1 then hlS e p S k else if kwd e p = 2 then loS e p S k else if kwd e p = 3 then kiS e p S k else if kwd e p = 4 then adS e p S k
  else if kwd e p = 5 then onS e p 0 S (enB e (oX e p) (onU S 0) k) else if kwd e p = 6 then onS e p 1 S (kpB e (oX e p) 6 0 9 (onU S 1) k) else if kwd e p = 7 then onS e p 2 S (kpB e (oX e p) 7 0 99 (onU S 2) k)
  else if kwd e p = 8 then onS e p 3 S (kpB e (oX e p) 8 1 99 (onU S 3) k) else if kwd e p = 9 then onS e p 4 S (kpB e (oX e p) 9 1 9 (onU S 4) k) else if kwd e p = 10 then onS e p 5 S (trB e 9 (oX e p) (onU S 5) k) else flt 1 (oP e p)
theorem kwd_1 {e : TXX} {p : Nat} {n : Nat} (hn : n < 16) (h : kwd e p = (n : Int)) : oK e p = 1 := ((kwd_k hn).mp h).1
theorem rowS_P {e : TXX} {p : Nat} {S : LRS} {k : Nat → LRS → RS} (h : ∀ p' S', p + 2 ≤ p' → P4 (k p' S')) : P4 (rowS e p S k) := by
  unfold rowS
  have w : ∀ n : Nat, n < 16 → kwd e p = (n : Int) → oK e p = 1 := fun n hn h => kwd_1 hn h
  have h2 : oK e p = 1 → ∀ p' S', oX e p + 2 ≤ p' → P4 (k p' S') := fun h1 p' S' hp => h p' S' (by have := oX_gt (e := e) (p := p) (by omega); omega)
  refine ite_P (fun c => slS_P (w 0 (by omega) c) h) (fun _ => ite_P (fun c => hlS_P (w 1 (by omega) c) h) (fun _ => ite_P (fun c => loS_P (w 2 (by omega) c) h) (fun _ => ite_P (fun c => kiS_P (w 3 (by omega) c) h) (fun _ => ite_P (fun c => adS_P (w 4 (by omega) c) h) (fun _ => ?_)))))
  refine ite_P (fun c => onS_P (enB_P (h2 (w 5 (by omega) c)))) (fun _ => ite_P (fun c => onS_P (kpB_P (h2 (w 6 (by omega) c)))) (fun _ => ite_P (fun c => onS_P (kpB_P (h2 (w 7 (by omega) c)))) (fun _ => ite_P (fun c => onS_P (kpB_P (h2 (w 8 (by omega) c)))) (fun _ => ite_P (fun c => onS_P (kpB_P (h2 (w 9 (by omega) c)))) (fun _ => ite_P (fun c => onS_P (trB_P _ _ _ (h2 (w 10 (by omega) c)))) (fun _ => flt_P (by omega)))))))
theorem rowS_0 {e : TXX} {p : Nat} {S : LRS} {k : Nat → LRS → RS} (h : kwd e p = 0) : rowS e p S k = slS e p S k := by unfold rowS; rw [if_pos h]
theorem rowS_1 {e : TXX} {p : Nat} {S : LRS} {k : Nat → LRS → RS} (h : kwd e p = 1) : rowS e p S k = hlS e p S k := by unfold rowS; rw [if_neg (by omega), if_pos h]
theorem rowS_2 {e : TXX} {p : Nat} {S : LRS} {k : Nat → LRS → RS} (h : kwd e p = 2) : rowS e p S k = loS e p S k := by unfold rowS; rw [if_neg (by omega), if_neg (by omega), if_pos h]
theorem rowS_3 {e : TXX} {p : Nat} {S : LRS} {k : Nat → LRS → RS} (h : kwd e p = 3) : rowS e p S k = kiS e p S k := by unfold rowS; rw [if_neg (by omega), if_neg (by omega), if_neg (by omega), if_pos h]
theorem rowS_4 {e : TXX} {p : Nat} {S : LRS} {k : Nat → LRS → RS} (h : kwd e p = 4) : rowS e p S k = adS e p S k := by unfold rowS; rw [if_neg (by omega), if_neg (by omega), if_neg (by omega), if_neg (by omega), if_pos h]
theorem rowS_5 {e : TXX} {p : Nat} {S : LRS} {k : Nat → LRS → RS} (h : kwd e p = 5) : rowS e p S k = onS e p 0 S (enB e (oX e p) (onU S 0) k) := by unfold rowS; rw [if_neg (by omega), if_neg (by omega), if_neg (by omega), if_neg (by omega), if_neg (by omega), if_pos h]
theorem rowS_6 {e : TXX} {p : Nat} {S : LRS} {k : Nat → LRS → RS} (h : kwd e p = 6) : rowS e p S k = onS e p 1 S (kpB e (oX e p) 6 0 9 (onU S 1) k) := by unfold rowS; rw [if_neg (by omega), if_neg (by omega), if_neg (by omega), if_neg (by omega), if_neg (by omega), if_neg (by omega), if_pos h]
theorem rowS_7 {e : TXX} {p : Nat} {S : LRS} {k : Nat → LRS → RS} (h : kwd e p = 7) : rowS e p S k = onS e p 2 S (kpB e (oX e p) 7 0 99 (onU S 2) k) := by unfold rowS; rw [if_neg (by omega), if_neg (by omega), if_neg (by omega), if_neg (by omega), if_neg (by omega), if_neg (by omega), if_neg (by omega), if_pos h]
theorem rowS_8 {e : TXX} {p : Nat} {S : LRS} {k : Nat → LRS → RS} (h : kwd e p = 8) : rowS e p S k = onS e p 3 S (kpB e (oX e p) 8 1 99 (onU S 3) k) := by unfold rowS; rw [if_neg (by omega), if_neg (by omega), if_neg (by omega), if_neg (by omega), if_neg (by omega), if_neg (by omega), if_neg (by omega), if_neg (by omega), if_pos h]
theorem rowS_9 {e : TXX} {p : Nat} {S : LRS} {k : Nat → LRS → RS} (h : kwd e p = 9) : rowS e p S k = onS e p 4 S (kpB e (oX e p) 9 1 9 (onU S 4) k) := by unfold rowS; rw [if_neg (by omega), if_neg (by omega), if_neg (by omega), if_neg (by omega), if_neg (by omega), if_neg (by omega), if_neg (by omega), if_neg (by omega), if_neg (by omega), if_pos h]
theorem rowS_10 {e : TXX} {p : Nat} {S : LRS} {k : Nat → LRS → RS} (h : kwd e p = 10) : rowS e p S k = onS e p 5 S (trB e 9 (oX e p) (onU S 5) k) := by unfold rowS; rw [if_neg (by omega), if_neg (by omega), if_neg (by omega), if_neg (by omega), if_neg (by omega), if_neg (by omega), if_neg (by omega), if_neg (by omega), if_neg (by omega), if_neg (by omega), if_pos h]
theorem rowS_x {e : TXX} {p : Nat} {S : LRS} {k : Nat → LRS → RS} (h : kwd e p < 0 ∨ 10 < kwd e p) : rowS e p S k = flt 1 (oP e p) := by unfold rowS; rw [if_neg (by omega), if_neg (by omega), if_neg (by omega), if_neg (by omega), if_neg (by omega), if_neg (by omega), if_neg (by omega), if_neg (by omega), if_neg (by omega), if_neg (by omega), if_neg (by omega)]
theorem onU_5 {S : LRS} : (onU S 5).on 5 = true := by show (S.on 5 || decide (5 = 5)) = true; simp
theorem M_row {e : TXX} {p : Nat} {S : LRS} {r : RS} {k : Nat → LRS → RS} (X : TK e) {i t hA : F32} {j nm rv : Nat → Int64} (ht : ∀ q, q < e.2.1 → t q &&& 255 = eI (e.1 q)) (hrv : RSV rv) (R : RLd e p i j) (L : LSk S) (M : MR S i hA nm) (hE : r = rowS e p S k) {Q : QRow} (ok : ∀ i' j' p' S' h' nm', r = semS e p' (k (oX e p') S') → LSk S' → RLd e p' i' j' → MR S' i' h' nm' → KLr i i' → Q 1 i' j' h' nm') (bad : ∀ i' j' h' nm', RFl r i' → KLr i i' → Q 0 i' j' h' nm') : w_LongTrainModel_row i j t hA rv nm Q := by
  unfold w_LongTrainModel_row
  refine M_isWord (k := 0) R (by omega) (by decide) (fun h => ?_) (fun h0 => ?_)
  · (first | refine z1T ?_ | refine z1N ?_); exact M_slope X ht R (kwd_1 (by omega) h) L M (hE.trans (rowS_0 h)) ok bad
  (first | refine z0T ?_ | refine z0N ?_)
  refine M_isWord (k := 1) R (by omega) (by decide) (fun h => ?_) (fun h1 => ?_)
  · (first | refine z1T ?_ | refine z1N ?_); exact M_halt_ X ht hrv R (kwd_1 (by omega) h) L M (hE.trans (rowS_1 h)) ok bad
  (first | refine z0T ?_ | refine z0N ?_)
  refine M_isWord (k := 2) R (by omega) (by decide) (fun h => ?_) (fun h2 => ?_)
  · (first | refine z1T ?_ | refine z1N ?_); exact M_loop_ X ht R (kwd_1 (by omega) h) L M (hE.trans (rowS_2 h)) ok bad
  (first | refine z0T ?_ | refine z0N ?_)
  refine M_isWord (k := 3) R (by omega) (by decide) (fun h => ?_) (fun h3 => ?_)
  · (first | refine z1T ?_ | refine z1N ?_); exact M_kind_ X ht hrv R (kwd_1 (by omega) h) L M (hE.trans (rowS_3 h)) ok bad
  (first | refine z0T ?_ | refine z0N ?_)
  refine M_isWord (k := 4) R (by omega) (by decide) (fun h => ?_) (fun h4 => ?_)
  · (first | refine z1T ?_ | refine z1N ?_); exact M_adds X ht hrv R (kwd_1 (by omega) h) L M (hE.trans (rowS_4 h)) ok bad
  (first | refine z0T ?_ | refine z0N ?_)
  refine M_isWord (k := 5) R (by omega) (by decide) (fun h => ?_) (fun h5 => ?_)
  · (first | refine z1T ?_ | refine z1N ?_)
    refine M_isOnce (q := 0) X ht R (kwd_1 (by omega) h) L M (by omega) (by decide) (hE.trans (rowS_5 h)) (fun i1 j1 hE1 hf L1 R1 M1 K1 => ?_) (fun i1 j1 F K1 => by (first | refine z0T ?_ | refine z0N ?_); exact bad _ _ _ _ F K1)
    (first | refine z1T ?_ | refine z1N ?_)
    unfold enB at hE1
    refine M_takes (lo := 1) (hi := 999) X ht R1 (by (first | exact B31_s (by omega) (by omega) | exact B31_of _ | (constructor <;> omega))) (by (first | exact B31_s (by omega) (by omega) | exact B31_of _ | (constructor <;> omega))) hE1 (fun i2 j2 hE2 o2 l2 g2 h18 R2 K2 => ?_) (fun i2 j2 F K2 => by (first | refine z0T ?_ | refine z0N ?_); exact bad _ _ _ _ F (K1.tr K2.l))
    (first | refine z1T ?_ | refine z1N ?_)
    refine M_takes (lo := 1) (hi := 99) X ht R2 (by (first | exact B31_s (by omega) (by omega) | exact B31_of _ | (constructor <;> omega))) (by (first | exact B31_s (by omega) (by omega) | exact B31_of _ | (constructor <;> omega))) hE2 (fun i3 j3 hE3 o3 l3 g3 h18' R3 K3 => ?_) (fun i3 j3 F K3 => by (first | refine z0T ?_ | refine z0N ?_); exact bad _ _ _ _ F ((K1.tr K2.l).tr K3.l))
    (first | refine z1T ?_ | refine z1N ?_)
    rw [h18, h18']
    have b1 : bnV 4 (oV e (oX e p)) := by unfold bnV; omega
    have b2 : bnV 5 (oV e (oX e (oX e p))) := by unfold bnV; omega
    exact ok _ _ _ _ _ _ hE3 (seU_k (seU_k L1 b1) b2) R3 (seU_M (seU_M ((M1.k K2).k K3) (by omega)) (by omega)) ((K1.tr K2.l).tr K3.l)
  (first | refine z0T ?_ | refine z0N ?_)
  refine M_isWord (k := 6) R (by omega) (by decide) (fun h => ?_) (fun h6 => ?_)
  · (first | refine z1T ?_ | refine z1N ?_)
    refine M_isOnce (q := 1) X ht R (kwd_1 (by omega) h) L M (by omega) (by decide) (hE.trans (rowS_6 h)) (fun i1 j1 hE1 hf L1 R1 M1 K1 => ?_) (fun i1 j1 F K1 => by (first | refine z0T ?_ | refine z0N ?_); exact bad _ _ _ _ F K1)
    (first | refine z1T ?_ | refine z1N ?_)
    exact M_keeps (c := 6) (lo := 0) (hi := 9) X ht R1 L1 M1 (by omega) (fun v a b => by unfold bnV; omega) (by (first | exact B31_s (by omega) (by omega) | exact B31_of _ | (constructor <;> omega))) (by (first | exact B31_s (by omega) (by omega) | exact B31_of _ | (constructor <;> omega))) hE1 (by decide) (by decide) (by decide) (fun i2 j2 p2 S2 h2 hE2 L2 R2 M2 K2 => by (first | refine z1T ?_ | refine z1N ?_); exact ok _ _ _ _ _ _ hE2 L2 R2 M2 (K1.tr K2)) (fun i2 j2 h2 F K2 => by (first | refine z0T ?_ | refine z0N ?_); exact bad _ _ _ _ F (K1.tr K2))
  (first | refine z0T ?_ | refine z0N ?_)
  refine M_isWord (k := 7) R (by omega) (by decide) (fun h => ?_) (fun h7 => ?_)
  · (first | refine z1T ?_ | refine z1N ?_)
    refine M_isOnce (q := 2) X ht R (kwd_1 (by omega) h) L M (by omega) (by decide) (hE.trans (rowS_7 h)) (fun i1 j1 hE1 hf L1 R1 M1 K1 => ?_) (fun i1 j1 F K1 => by (first | refine z0T ?_ | refine z0N ?_); exact bad _ _ _ _ F K1)
    (first | refine z1T ?_ | refine z1N ?_)
    exact M_keeps (c := 7) (lo := 0) (hi := 99) X ht R1 L1 M1 (by omega) (fun v a b => by unfold bnV; omega) (by (first | exact B31_s (by omega) (by omega) | exact B31_of _ | (constructor <;> omega))) (by (first | exact B31_s (by omega) (by omega) | exact B31_of _ | (constructor <;> omega))) hE1 (by decide) (by decide) (by decide) (fun i2 j2 p2 S2 h2 hE2 L2 R2 M2 K2 => by (first | refine z1T ?_ | refine z1N ?_); exact ok _ _ _ _ _ _ hE2 L2 R2 M2 (K1.tr K2)) (fun i2 j2 h2 F K2 => by (first | refine z0T ?_ | refine z0N ?_); exact bad _ _ _ _ F (K1.tr K2))
  (first | refine z0T ?_ | refine z0N ?_)
  refine M_isWord (k := 8) R (by omega) (by decide) (fun h => ?_) (fun h8 => ?_)
  · (first | refine z1T ?_ | refine z1N ?_)
    refine M_isOnce (q := 3) X ht R (kwd_1 (by omega) h) L M (by omega) (by decide) (hE.trans (rowS_8 h)) (fun i1 j1 hE1 hf L1 R1 M1 K1 => ?_) (fun i1 j1 F K1 => by (first | refine z0T ?_ | refine z0N ?_); exact bad _ _ _ _ F K1)
    (first | refine z1T ?_ | refine z1N ?_)
    exact M_keeps (c := 8) (lo := 1) (hi := 99) X ht R1 L1 M1 (by omega) (fun v a b => by unfold bnV; omega) (by (first | exact B31_s (by omega) (by omega) | exact B31_of _ | (constructor <;> omega))) (by (first | exact B31_s (by omega) (by omega) | exact B31_of _ | (constructor <;> omega))) hE1 (by decide) (by decide) (by decide) (fun i2 j2 p2 S2 h2 hE2 L2 R2 M2 K2 => by (first | refine z1T ?_ | refine z1N ?_); exact ok _ _ _ _ _ _ hE2 L2 R2 M2 (K1.tr K2)) (fun i2 j2 h2 F K2 => by (first | refine z0T ?_ | refine z0N ?_); exact bad _ _ _ _ F (K1.tr K2))
  (first | refine z0T ?_ | refine z0N ?_)
  refine M_isWord (k := 9) R (by omega) (by decide) (fun h => ?_) (fun h9 => ?_)
  · (first | refine z1T ?_ | refine z1N ?_)
    refine M_isOnce (q := 4) X ht R (kwd_1 (by omega) h) L M (by omega) (by decide) (hE.trans (rowS_9 h)) (fun i1 j1 hE1 hf L1 R1 M1 K1 => ?_) (fun i1 j1 F K1 => by (first | refine z0T ?_ | refine z0N ?_); exact bad _ _ _ _ F K1)
    (first | refine z1T ?_ | refine z1N ?_)
    exact M_keeps (c := 9) (lo := 1) (hi := 9) X ht R1 L1 M1 (by omega) (fun v a b => by unfold bnV; omega) (by (first | exact B31_s (by omega) (by omega) | exact B31_of _ | (constructor <;> omega))) (by (first | exact B31_s (by omega) (by omega) | exact B31_of _ | (constructor <;> omega))) hE1 (by decide) (by decide) (by decide) (fun i2 j2 p2 S2 h2 hE2 L2 R2 M2 K2 => by (first | refine z1T ?_ | refine z1N ?_); exact ok _ _ _ _ _ _ hE2 L2 R2 M2 (K1.tr K2)) (fun i2 j2 h2 F K2 => by (first | refine z0T ?_ | refine z0N ?_); exact bad _ _ _ _ F (K1.tr K2))
  (first | refine z0T ?_ | refine z0N ?_)
  refine M_isWord (k := 10) R (by omega) (by decide) (fun h => ?_) (fun h10 => ?_)
  · (first | refine z1T ?_ | refine z1N ?_)
    refine M_isOnce (q := 5) X ht R (kwd_1 (by omega) h) L M (by omega) (by decide) (hE.trans (rowS_10 h)) (fun i1 j1 hE1 hf L1 R1 M1 K1 => ?_) (fun i1 j1 F K1 => by (first | refine z0T ?_ | refine z0N ?_); exact bad _ _ _ _ F K1)
    (first | refine z1T ?_ | refine z1N ?_)
    have hz : (onU S 5).h 10 = 0 := L.f5 hf
    exact M_train_ (g := 9) X ht hrv R1 L1 M1 onU_5 (by rw [hz]; omega) hE1 (fun i2 j2 p2 S2 h2 hE2 L2 R2 M2 K2 => by (first | refine z1T ?_ | refine z1N ?_); exact ok _ _ _ _ _ _ hE2 L2 R2 M2 (K1.tr K2)) (fun i2 j2 h2 F K2 => by (first | refine z0T ?_ | refine z0N ?_); exact bad _ _ _ _ F (K1.tr K2))
  (first | refine z0T ?_ | refine z0N ?_)
  have hb := kwd_bd e p
  exact M_bad X R (by omega) (by omega) (hE.trans (rowS_x (by omega))) rfl (fun i' F K => bad _ _ _ _ F K.l)
/-! the class -/
def clQ (t : F32) (Q : QCR) : QCR := fun z it i j il gl hN kN hl ol d fl => ((z = 0) → Q 0 it i j il gl hN kN hl ol d fl) ∧ ((¬ (z = 0)) → w_Reader_nextCloses i j t (fun z2 i2 j2 => (((z2 = 0) → Q 0 it i2 j2 il gl hN kN hl ol d fl) ∧ ((¬ (z2 = 0)) → Q 1 it i2 j2 il gl hN kN hl ol d fl))))
theorem C_row {e : TXX} {p : Nat} {S : LRS} {r : RS} {k : Nat → LRS → RS} (X : TK e) {it i t il gl hl ol d fl : F32} {j hN kN : Nat → Int64} (ht : ∀ q, q < e.2.1 → t q = eI (e.1 q)) (R : CLd e p i j) (L : LSk S) (M : CR S it il gl hl ol d fl hN kN) (hE : r = rowS e p S k) {Q : QCR} (ok : ∀ it' i' j' il' gl' hN' kN' hl' ol' d' fl' p' S', r = k p' S' → LSk S' → CRd e p' i' → CR S' it' il' gl' hl' ol' d' fl' hN' kN' → Q 1 it' i' j' il' gl' hN' kN' hl' ol' d' fl') (bad : ∀ it' i' j' il' gl' hN' kN' hl' ol' d' fl', CFl r i' → Q 0 it' i' j' il' gl' hN' kN' hl' ol' d' fl') : w_LineReader_readRow it i j t il gl hN kN hl ol d fl (eI (kwd e p)) Q := by
  have hb := kwd_bd e p
  have cok : ∀ it' i' j' il' gl' hN' kN' hl' ol' d' fl' p' S', r = semS e p' (k (oX e p') S') → LSk S' → CRd e p' i' → CR S' it' il' gl' hl' ol' d' fl' hN' kN' → clQ t Q 1 it' i' j' il' gl' hN' kN' hl' ol' d' fl' := fun it' i' j' il' gl' hN' kN' hl' ol' d' fl' p' S' hE' L' R' M' => by
    unfold clQ
    (first | refine z1T ?_ | refine z1N ?_)
    exact C_nextCloses X ht R' hE' (fun i2 j2 hE2 _ R2 => by (first | refine z1T ?_ | refine z1N ?_); exact ok _ _ _ _ _ _ _ _ _ _ _ _ _ hE2 L' R2 M') (fun i2 j2 F => by (first | refine z0T ?_ | refine z0N ?_); exact bad _ _ _ _ _ _ _ _ _ _ _ F)
  have cbad : ∀ it' i' j' il' gl' hN' kN' hl' ol' d' fl', CFl r i' → clQ t Q 0 it' i' j' il' gl' hN' kN' hl' ol' d' fl' := fun it' i' j' il' gl' hN' kN' hl' ol' d' fl' F => by
    unfold clQ
    (first | refine z0T ?_ | refine z0N ?_)
    exact bad _ _ _ _ _ _ _ _ _ _ _ F
  unfold w_LineReader_readRow
  refine q_eq (b := 0) (by (first | exact B31_s (by omega) (by omega) | exact B31_of _ | (constructor <;> omega))) (by (first | exact B31_s (by omega) (by omega) | exact B31_of _ | (constructor <;> omega))) (fun h => ?_) (fun h0 => ?_)
  · exact C_slope (Q := clQ t Q) X ht R (kwd_1 (n := 0) (by omega) h) L M (hE.trans (rowS_0 h)) cok cbad
  refine q_eq (b := 1) (by (first | exact B31_s (by omega) (by omega) | exact B31_of _ | (constructor <;> omega))) (by (first | exact B31_s (by omega) (by omega) | exact B31_of _ | (constructor <;> omega))) (fun h => ?_) (fun h1 => ?_)
  · exact C_halt_ (Q := clQ t Q) X ht R (kwd_1 (n := 1) (by omega) h) L M (hE.trans (rowS_1 h)) cok cbad
  refine q_eq (b := 2) (by (first | exact B31_s (by omega) (by omega) | exact B31_of _ | (constructor <;> omega))) (by (first | exact B31_s (by omega) (by omega) | exact B31_of _ | (constructor <;> omega))) (fun h => ?_) (fun h2 => ?_)
  · exact C_loop_ (Q := clQ t Q) X ht R (kwd_1 (n := 2) (by omega) h) L M (hE.trans (rowS_2 h)) cok cbad
  refine q_eq (b := 3) (by (first | exact B31_s (by omega) (by omega) | exact B31_of _ | (constructor <;> omega))) (by (first | exact B31_s (by omega) (by omega) | exact B31_of _ | (constructor <;> omega))) (fun h => ?_) (fun h3 => ?_)
  · exact C_kind_ (Q := clQ t Q) X ht R (kwd_1 (n := 3) (by omega) h) L M (hE.trans (rowS_3 h)) cok cbad
  refine q_eq (b := 4) (by (first | exact B31_s (by omega) (by omega) | exact B31_of _ | (constructor <;> omega))) (by (first | exact B31_s (by omega) (by omega) | exact B31_of _ | (constructor <;> omega))) (fun h => ?_) (fun h4 => ?_)
  · exact C_adds (Q := clQ t Q) X ht R (kwd_1 (n := 4) (by omega) h) L M (hE.trans (rowS_4 h)) cok cbad
  refine q_eq (b := 5) (by (first | exact B31_s (by omega) (by omega) | exact B31_of _ | (constructor <;> omega))) (by (first | exact B31_s (by omega) (by omega) | exact B31_of _ | (constructor <;> omega))) (fun h => ?_) (fun h5 => ?_)
  · have h1 := kwd_1 (n := 5) (by omega) h
    refine C_tellOnce (q := 0) X R L M (by omega) (by rw [h]; decide) (hE.trans (rowS_5 h)) (fun it2 hE2 hf L2 M2 => ?_) (fun it2 i2 F => by (first | refine z0T ?_ | refine z0N ?_); exact bad _ _ _ _ _ _ _ _ _ _ _ F)
    (first | refine z1T ?_ | refine z1N ?_)
    exact C_engine X ht (R.r (by omega) (by omega)) L2 M2 hE2 (fun i3 j3 il3 p3 S3 hE3 L3 R3 M3 => cok _ _ _ _ _ _ _ _ _ _ _ _ _ hE3 L3 R3 M3) (fun i3 j3 il3 F => cbad _ _ _ _ _ _ _ _ _ _ _ F)
  refine q_eq (b := 6) (by (first | exact B31_s (by omega) (by omega) | exact B31_of _ | (constructor <;> omega))) (by (first | exact B31_s (by omega) (by omega) | exact B31_of _ | (constructor <;> omega))) (fun h => ?_) (fun h6 => ?_)
  · have h1 := kwd_1 (n := 6) (by omega) h
    refine C_tellOnce (q := 1) X R L M (by omega) (by rw [h]; decide) (hE.trans (rowS_6 h)) (fun it2 hE2 hf L2 M2 => ?_) (fun it2 i2 F => by (first | refine z0T ?_ | refine z0N ?_); exact bad _ _ _ _ _ _ _ _ _ _ _ F)
    (first | refine z1T ?_ | refine z1N ?_)
    exact C_keeps (c := 6) X ht (R.r (by omega) (by omega)) L2 M2 (by omega) hE2 (by rw [h]; decide) (fun i3 j3 il3 p3 S3 hE3 L3 R3 M3 => cok _ _ _ _ _ _ _ _ _ _ _ _ _ hE3 L3 R3 M3) (fun i3 j3 il3 F => cbad _ _ _ _ _ _ _ _ _ _ _ F)
  refine q_eq (b := 7) (by (first | exact B31_s (by omega) (by omega) | exact B31_of _ | (constructor <;> omega))) (by (first | exact B31_s (by omega) (by omega) | exact B31_of _ | (constructor <;> omega))) (fun h => ?_) (fun h7 => ?_)
  · have h1 := kwd_1 (n := 7) (by omega) h
    refine C_tellOnce (q := 2) X R L M (by omega) (by rw [h]; decide) (hE.trans (rowS_7 h)) (fun it2 hE2 hf L2 M2 => ?_) (fun it2 i2 F => by (first | refine z0T ?_ | refine z0N ?_); exact bad _ _ _ _ _ _ _ _ _ _ _ F)
    (first | refine z1T ?_ | refine z1N ?_)
    exact C_keeps (c := 7) X ht (R.r (by omega) (by omega)) L2 M2 (by omega) hE2 (by rw [h]; decide) (fun i3 j3 il3 p3 S3 hE3 L3 R3 M3 => cok _ _ _ _ _ _ _ _ _ _ _ _ _ hE3 L3 R3 M3) (fun i3 j3 il3 F => cbad _ _ _ _ _ _ _ _ _ _ _ F)
  refine q_eq (b := 8) (by (first | exact B31_s (by omega) (by omega) | exact B31_of _ | (constructor <;> omega))) (by (first | exact B31_s (by omega) (by omega) | exact B31_of _ | (constructor <;> omega))) (fun h => ?_) (fun h8 => ?_)
  · have h1 := kwd_1 (n := 8) (by omega) h
    refine C_tellOnce (q := 3) X R L M (by omega) (by rw [h]; decide) (hE.trans (rowS_8 h)) (fun it2 hE2 hf L2 M2 => ?_) (fun it2 i2 F => by (first | refine z0T ?_ | refine z0N ?_); exact bad _ _ _ _ _ _ _ _ _ _ _ F)
    (first | refine z1T ?_ | refine z1N ?_)
    exact C_keeps (c := 8) X ht (R.r (by omega) (by omega)) L2 M2 (by omega) hE2 (by rw [h]; decide) (fun i3 j3 il3 p3 S3 hE3 L3 R3 M3 => cok _ _ _ _ _ _ _ _ _ _ _ _ _ hE3 L3 R3 M3) (fun i3 j3 il3 F => cbad _ _ _ _ _ _ _ _ _ _ _ F)
  refine q_eq (b := 9) (by (first | exact B31_s (by omega) (by omega) | exact B31_of _ | (constructor <;> omega))) (by (first | exact B31_s (by omega) (by omega) | exact B31_of _ | (constructor <;> omega))) (fun h => ?_) (fun h9 => ?_)
  · have h1 := kwd_1 (n := 9) (by omega) h
    refine C_tellOnce (q := 4) X R L M (by omega) (by rw [h]; decide) (hE.trans (rowS_9 h)) (fun it2 hE2 hf L2 M2 => ?_) (fun it2 i2 F => by (first | refine z0T ?_ | refine z0N ?_); exact bad _ _ _ _ _ _ _ _ _ _ _ F)
    (first | refine z1T ?_ | refine z1N ?_)
    exact C_keeps (c := 9) X ht (R.r (by omega) (by omega)) L2 M2 (by omega) hE2 (by rw [h]; decide) (fun i3 j3 il3 p3 S3 hE3 L3 R3 M3 => cok _ _ _ _ _ _ _ _ _ _ _ _ _ hE3 L3 R3 M3) (fun i3 j3 il3 F => cbad _ _ _ _ _ _ _ _ _ _ _ F)
  refine q_eq (b := 10) (by (first | exact B31_s (by omega) (by omega) | exact B31_of _ | (constructor <;> omega))) (by (first | exact B31_s (by omega) (by omega) | exact B31_of _ | (constructor <;> omega))) (fun h => ?_) (fun h10 => ?_)
  · have h1 := kwd_1 (n := 10) (by omega) h
    refine C_tellOnce (q := 5) X R L M (by omega) (by rw [h]; decide) (hE.trans (rowS_10 h)) (fun it2 hE2 hf L2 M2 => ?_) (fun it2 i2 F => by (first | refine z0T ?_ | refine z0N ?_); exact bad _ _ _ _ _ _ _ _ _ _ _ F)
    (first | refine z1T ?_ | refine z1N ?_)
    exact C_train_ X ht (R.r (by omega) (by omega)) L2 M2 onU_5 (L.f5 hf) hE2 (fun i3 j3 il3 fl3 p3 S3 hE3 L3 R3 M3 => by (first | refine z1T ?_ | refine z1N ?_); exact ok _ _ _ _ _ _ _ _ _ _ _ _ _ hE3 L3 R3 M3) (fun i3 j3 il3 fl3 F => by (first | refine z0T ?_ | refine z0N ?_); exact bad _ _ _ _ _ _ _ _ _ _ _ F)
  exact C_failHere X R (by omega) (by omega) (hE.trans (rowS_x (by omega))) rfl (fun i' F => bad _ _ _ _ _ _ _ _ _ _ _ F)
