/-! move, go: the class -/
abbrev QT := F32 → F32 → F32 → F32 → F32 → F32 → F32 → F32 → F32 → F32 → F32 → F32 → F32 → F32 → F32 → Prop
theorem tk_TX {τ : Nat → Int} {T : TS} (hpa : ∀ p, p ∈ T.hp → 0 ≤ p.1 ∧ p.1 < T.n) (nh : Nat) (h : Int) : RWeq (tkX τ (TX τ T) nh h) (TX τ (if 0 ≤ adN τ nh h then appT T (adN τ nh h) else T)) := by
  unfold tkX
  by_cases ha : 0 ≤ adN τ nh h
  · rw [if_pos ha, if_pos ha]
    refine ⟨rfl, fun j hj => ?_⟩
    have hj' : j < T.n + 1 := hj
    show insF T.k T.n (adN τ nh h) j = updI T.k T.n (adN τ nh h) j ∧ insF (fun i => ST τ (T.k i)) T.n (ST τ (adN τ nh h)) j = ST τ (updI T.k T.n (adN τ nh h) j) ∧ insF T.w T.n 0 j = updI T.w T.n 0 j ∧ insF (fun i : Nat => pS T.hp i) T.n 0 j = pS T.hp j ∧ insF (fun i : Nat => cS T.hp i) T.n 0 j = cS T.hp j
    by_cases e : j = T.n
    · subst e
      have := pS_n (l := T.hp) (n := T.n) (fun p hp => (hpa p hp).2)
      simp only [insF_eq, updI_s]
      exact ⟨trivial, trivial, trivial, this.1.symm, this.2.symm⟩
    · have hlt : j < T.n := by omega
      simp only [insF_lt hlt, updI_n _ e]
      exact ⟨trivial, trivial, trivial, trivial, trivial⟩
  · rw [if_neg ha, if_neg ha]
    exact ⟨rfl, fun j _ => ⟨rfl, rfl, rfl, rfl, rfl⟩⟩
theorem C_move {τ : Nat → Int} (O : LOk τ) {T : TS} (K : TOk τ T) {il gl hl d : F32} (I : LnI τ il) (G : LnG τ gl) (HH : LnH τ hl) (D : LnK τ d) {it i kk L W S E P H ih hst hsz hun hk b : F32} (C : CT τ T it i kk L W S E P H ih hst hsz hun hk) {s : Int} {m : Int32} (hm : (s = 1 ∧ m = 1) ∨ (s = 0 ∧ m = 0)) {Q : Int32 → QT} (h2 : ¬ T.hd + 1 < τ 0 → Q 2 it i L W P b S E ih hst hsz hun hk kk H) (h1 : T.hd + 1 < τ 0 → ¬ (0 : Int32) ≤ eI (runN τ T (s = 1)) → ∀ i' b', CT τ T it i' kk L W S E P H ih hst hsz hun hk → Q 1 it i' L W P b' S E ih hst hsz hun hk kk H) (h0 : T.hd + 1 < τ 0 → (0 : Int32) ≤ eI (runN τ T (s = 1)) → ∀ it' i' kk' L' W' S' E' P' H' ih' hst' hsz' hun' hk' b', CT τ (mv3 τ T (runN τ T (s = 1))) it' i' kk' L' W' S' E' P' H' ih' hst' hsz' hun' hk' → Q 0 it' i' L' W' P' b' S' E' ih' hst' hsz' hun' hk' kk' H') : w_Train_move it il i L gl W P b S E ih hst hsz hun hk kk hl H d m Q := by
  have n18 := K.n18 O
  have hU := O.u
  have hd0 := K.hd0
  have hd4 := K.hd4 O
  have hn20 : (TX τ T).n ≤ 20 := by show T.n ≤ 20; omega
  unfold w_Train_move
  rw [C.row.hd, I.u]
  (try simp only [eI_lit, eI_neg, eI_add, eI_sub, eI_mul, eF_ap, upd_eF])
  refine q_lt (by (first | exact B31_s (by omega) (by omega) | exact B31_of _ | (constructor <;> omega))) (by (first | exact B31_s (by omega) (by omega) | exact B31_of _ | (constructor <;> omega))) (fun hlt => ?_) (fun h => h2 (by omega))
  have r1 := C.row.head (T.hd + 1)
  refine R_measure O r1 I G K.k hn20 (by omega) (Or.inl hlt) (fun b' hbe => ?_)
  rw [C.run, I.pull, I.sand]
  have main : ∀ (y0 y1 r : Int), r = runN τ T (s = 1) → y1 + y0 = r → j_Train_move_61 it il (upd i 10 (eI (T.hd + 1))) L W P b' S E ih hst hsz hun hk kk hl H d (eI y0) (eI y1) Q := fun y0 y1 r hr hy => by
    subst hr
    unfold j_Train_move_61
    (try simp only [eI_lit, eI_neg, eI_add, eI_sub, eI_mul, eF_ap, upd_eF])
    rw [hy]
    refine ⟨fun hok => ?_, fun hno => ?_⟩
    · have hq := h0 hlt hok
      generalize hr : runN τ T (s = 1) = r at *
      have K1 := TOk.mv1 O K hlt r
      have KK2 := TOk.mv2 O K hlt r
      have n2 := KK2.n18 O
      rw [I.wear]
      have ept : lf (Bad τ (TX τ T).s (TX τ T).w (brp τ (TX τ T) (T.hd + 1))) (TX τ T).n = ptN τ T := rfl
      have take : ∀ (ih' i' hst' hsz' hun' hk' E' : F32), RowR τ (TX τ (mv2 τ T r)) (T.hd + 1) (hb τ T.hd) i' kk L W S E' P H → ih' 5 = eI (mv2 τ T r).v → ih' 1 = eI (tn (mv2 τ T r).vs (mv2 τ T r).v) → (∀ j, j < (mv2 τ T r).v → hsz' j = eI ((mv2 τ T r).vs j)) → (∀ j, j < (mv2 τ T r).v → hun' j = eI ((mv2 τ T r).vu j)) → (∀ j, j < (mv2 τ T r).v → hst' j = eI (tn (mv2 τ T r).vs j)) → (∀ j, j < (mv2 τ T r).v → ∀ i, i < (mv2 τ T r).vs j → hk' (tn (mv2 τ T r).vs j + i) = eI ((mv2 τ T r).vk j i)) → (mv2 τ T r).run = r → w_Row_takeOn i' il hl kk L W S E' P H d (fun i2 K2 L2 W2 S2 E2 P2 H2 => Q (eI 0) (upd it 2 (eI r)) i2 L2 W2 P2 b' S2 E2 ih' hst' hsz' hun' hk' K2 H2) := fun ih' i' hst' hsz' hun' hk' E' rr g5 g1 gs gu ga gk grun => by
        have hhb := hb_le O T.hd
        refine R_takeOn O rr I HH D (by (first | exact B31_s (by omega) (by omega) | exact B31_of _ | (constructor <;> omega))) hhb (by show (mv2 τ T r).n < 20; omega) (fun i2 K2 L2 W2 S2 E2 P2 H2 r2 => ?_)
        rw [hb_next O hd0] at r2
        have r3 := r2.congr (tk_TX (T := mv2 τ T r) KK2.hpa (hb τ T.hd) (T.hd + 1))
        have ehd : (mv3 τ T r).hd = T.hd + 1 := by
          unfold mv3
          split
          · exact mv2_hd
          · exact mv2_hd
        have em : mv3 τ T r = (if 0 ≤ adN τ (hb τ T.hd) (T.hd + 1) then appT (mv2 τ T r) (adN τ (hb τ T.hd) (T.hd + 1)) else mv2 τ T r) := rfl
        rw [← em] at r3
        have ev : (mv3 τ T r).v = (mv2 τ T r).v ∧ (mv3 τ T r).vs = (mv2 τ T r).vs ∧ (mv3 τ T r).vu = (mv2 τ T r).vu ∧ (mv3 τ T r).vk = (mv2 τ T r).vk ∧ (mv3 τ T r).run = (mv2 τ T r).run := by
          unfold mv3
          split
          · exact ⟨rfl, rfl, rfl, rfl, rfl⟩
          · exact ⟨rfl, rfl, rfl, rfl, rfl⟩
        refine hq _ _ _ _ _ _ _ _ _ _ _ _ _ _ _ ⟨?_, ?_, ?_, ?_, ?_, ?_, ?_, ?_⟩
        · rw [ehd]; exact r3
        · rw [upd_s, ev.2.2.2.2, grun]
        · rw [ev.1]; exact g5
        · rw [ev.1, ev.2.1]; exact g1
        · rw [ev.1, ev.2.1]; exact gs
        · rw [ev.1, ev.2.2.1]; exact gu
        · rw [ev.1, ev.2.1]; exact ga
        · rw [ev.1, ev.2.1, ev.2.2.2.1]; exact gk
      refine R_partingPlace r1 hn20 hbe (fun hnone => ?_) (fun hpart => ?_)
      · refine ⟨fun h => absurd rfl h, fun _ => ?_⟩
        have e8 : upd i 10 (eI (T.hd + 1)) 8 = eI T.n := r1.sz
        rw [e8]
        have hptn : ptN τ T = T.n := hnone
        refine R_addWear r1 hn20 hbe (m := T.n) (Nat.le_refl _) (fun E' rE => ?_)
        have em2 : mv2 τ T r = mv1 τ T r := by unfold mv2; rw [if_neg (by omega)]
        refine take _ _ _ _ _ _ _ ?_ ?_ ?_ ?_ ?_ ?_ ?_ ?_
        · rw [em2]
          show RowR τ ⟨T.n, T.k, fun i => ST τ (T.k i), fun i => if i < ptN τ T then _ else _, _, _⟩ _ _ _ _ _ _ _ _ _ _
          rw [hptn]; exact rE
        · rw [em2]; exact C.v
        · rw [em2]; exact C.st
        · rw [em2]; exact C.sz
        · rw [em2]; exact C.un
        · rw [em2]; exact C.sa
        · rw [em2]; exact C.kd
        · rw [em2]; rfl
      · have hpt : ptN τ T < T.n := hpart
        rw [ept]
        refine q_ne (by (first | exact B31_s (by omega) (by omega) | exact B31_of _ | (constructor <;> omega))) (by (first | exact B31_s (by omega) (by omega) | exact B31_of _ | (constructor <;> omega))) (fun _ => ?_) (fun h => by omega)
        refine R_addWear r1 hn20 hbe (m := ptN τ T) (by show ptN τ T ≤ T.n; omega) (fun E' rE => ?_)
        have em2 : mv2 τ T r = cutT τ (mv1 τ T r) (ptN τ T) := by unfold mv2; rw [if_pos hpt]
        have rE' : RowR τ (TX τ (mv1 τ T r)) (mv1 τ T r).hd (hb τ T.hd) (upd i 10 (eI (T.hd + 1))) kk L W S E' P H := rE
        refine C_part (it := it) O K1 rE' C.v C.st C.sz C.un C.sa C.kd (m := ptN τ T) hpt (fun ih' i' hst' hsz' hun' hk' rr g5 g1 gs gu ga gk => ?_)
        refine take _ _ _ _ _ _ _ ?_ ?_ ?_ ?_ ?_ ?_ ?_ ?_
        · rw [em2]; exact rr
        · rw [em2]; exact g5
        · rw [em2]; exact g1
        · rw [em2]; exact gs
        · rw [em2]; exact gu
        · rw [em2]; exact ga
        · rw [em2]; exact gk
        · rw [em2]; rfl
    · rw [upd_s, upd_upd]
      (try simp only [eI_lit, eI_neg, eI_add, eI_sub, eI_mul, eF_ap, upd_eF])
      have e10 : T.hd + 1 - 1 = T.hd := by omega
      rw [e10]
      exact h1 hlt hno _ _ ⟨C.row.head T.hd, C.run, C.v, C.st, C.sz, C.un, C.sa, C.kd⟩
  (try simp only [eI_lit, eI_neg, eI_add, eI_sub, eI_mul, eF_ap, upd_eF])
  rcases hm with ⟨rfl, rfl⟩ | ⟨rfl, rfl⟩
  · refine ⟨fun h => absurd h (by decide), fun _ => main _ _ _ rfl ?_⟩
    unfold runN
    rw [if_pos rfl]
  · refine ⟨fun _ => main 0 _ _ rfl ?_, fun h => by first | exact absurd rfl h | exact absurd trivial h⟩
    unfold runN
    rw [if_neg (by omega)]
theorem C_go {τ : Nat → Int} (O : LOk τ) {T : TS} (K : TOk τ T) {il gl hl d : F32} (I : LnI τ il) (G : LnG τ gl) (HH : LnH τ hl) (D : LnK τ d) {it i kk L W S E P H ih hst hsz hun hk b : F32} (C : CT τ T it i kk L W S E P H ih hst hsz hun hk) {n s : Int} (hn : B31 n) (hs : B31 s) {Q : Int32 → QT} (h0 : ¬ ((0 ≤ n ∧ n ≤ 400) ∧ 0 ≤ s ∧ s ≤ 1) → Q (-1) it i L W P b S E ih hst hsz hun hk kk H) (hq : (0 ≤ n ∧ n ≤ 400) ∧ 0 ≤ s ∧ s ≤ 1 → ∀ it' i' kk' L' W' S' E' P' H' ih' hst' hsz' hun' hk' b', CT τ (mvs τ s n.toNat T).2.2 it' i' kk' L' W' S' E' P' H' ih' hst' hsz' hun' hk' → Q (eI (mvs τ s n.toNat T).1) it' i' L' W' P' b' S' E' ih' hst' hsz' hun' hk' kk' H') : w_LongTrain_go it il i L gl W P b S E ih hst hsz hun hk kk hl H d (eI n) (eI s) Q := by
  unfold w_LongTrain_go
  refine q_lt (b := 0) hn (by (first | exact B31_s (by omega) (by omega) | exact B31_of _ | (constructor <;> omega))) (fun h => h0 (by omega)) (fun a1 => ?_)
  refine q_lt (a := 400) (by (first | exact B31_s (by omega) (by omega) | exact B31_of _ | (constructor <;> omega))) hn (fun h => h0 (by omega)) (fun a2 => ?_)
  refine q_lt (b := 0) hs (by (first | exact B31_s (by omega) (by omega) | exact B31_of _ | (constructor <;> omega))) (fun h => h0 (by omega)) (fun b1 => ?_)
  refine q_le (b := 1) hs (by (first | exact B31_s (by omega) (by omega) | exact B31_of _ | (constructor <;> omega))) (fun b2 => ?_) (fun h => h0 (by omega))
  have hq' := hq ⟨⟨a1, a2⟩, b1, b2⟩
  have en : n = ((n.toNat : Nat) : Int) := by omega
  generalize hN : n.toNat = N at *
  subst en
  refine lg_LongTrain_go_24 (G := Nat) (fun g x3 it' i' L' W' P' b' S' E' ih' hst' hsz' hun' hk' kk' H' => ∃ (m : Nat) (T' : TS), g = N - m ∧ m ≤ N ∧ x3 = eI m ∧ CT τ T' it' i' kk' L' W' S' E' P' H' ih' hst' hsz' hun' hk' ∧ TOk τ T' ∧ (mvs τ s N T).1 = m + (mvs τ s (N - m) T').1 ∧ (mvs τ s N T).2 = (mvs τ s (N - m) T').2) (fun g => g) ?_ N ⟨0, T, by omega, by omega, rfl, C, K, by rw [Nat.sub_zero]; omega, by rw [Nat.sub_zero]⟩
  rintro kr g x3 it' i' L' W' P' b' S' E' ih' hst' hsz' hun' hk' kk' H' ⟨m, T', rfl, hm, rfl, C', K', he1, he2⟩ hstep
  unfold b_LongTrain_go_24
  refine q_le (by (first | exact B31_s (by omega) (by omega) | exact B31_of _ | (constructor <;> omega))) (by (first | exact B31_s (by omega) (by omega) | exact B31_of _ | (constructor <;> omega))) (fun h => ?_) (fun h => ?_)
  · have em : N - m = 0 := by omega
    rw [em] at he1 he2
    have := hq' it' i' kk' L' W' S' E' P' H' ih' hst' hsz' hun' hk' b' (by rw [he2]; exact C')
    rw [he1] at this
    exact this
  · have em : N - m = (N - (m + 1)) + 1 := by omega
    rw [em, mvs] at he1 he2
    have go : ∀ q : Int32, ((s = 1 ∧ q = 1) ∨ (s = 0 ∧ q = 0)) → w_Train_move it' il i' L' gl W' P' b' S' E' ih' hst' hsz' hun' hk' kk' hl H' d q (fun z it2 i2 L2 W2 P2 b2 S2 E2 ih2 hst2 hsz2 hun2 hk2 kk2 H2 => (¬ z = 0 → Q (eI m) it2 i2 L2 W2 P2 b2 S2 E2 ih2 hst2 hsz2 hun2 hk2 kk2 H2) ∧ (z = 0 → kr (eI m + 1) it2 i2 L2 W2 P2 b2 S2 E2 ih2 hst2 hsz2 hun2 hk2 kk2 H2)) := fun q hq0 => by
      refine C_move O K' I G HH D C' hq0 (fun hno => ?_) (fun hlt hno i2 b2 C2 => ?_) (fun hlt hok it2 i2 kk2 L2 W2 S2 E2 P2 H2 ih2 hst2 hsz2 hun2 hk2 b2 C2 => ?_)
      · rw [if_neg hno] at he1 he2
        refine ⟨fun _ => ?_, fun h => absurd h (by decide)⟩
        have := hq' it' i' kk' L' W' S' E' P' H' ih' hst' hsz' hun' hk' b' (by rw [he2]; exact C')
        rw [he1] at this
        exact this
      · rw [if_pos hlt, if_neg hno] at he1 he2
        refine ⟨fun _ => ?_, fun h => absurd h (by decide)⟩
        have := hq' it' i2 kk' L' W' S' E' P' H' ih' hst' hsz' hun' hk' b2 (by rw [he2]; exact C2)
        rw [he1] at this
        exact this
      · rw [if_pos hlt, if_pos hok] at he1 he2
        refine ⟨fun h => absurd rfl h, fun _ => ?_⟩
        (try simp only [eI_lit, eI_neg, eI_add, eI_sub, eI_mul, eF_ap, upd_eF])
        refine hstep (N - (m + 1)) _ _ _ _ _ _ _ _ _ _ _ _ _ _ _ _ (by omega) ⟨m + 1, _, rfl, by omega, by congr 1, C2, TOk.mv3 O K' hlt _, ?_, he2⟩
        rw [he1]; show m + (_ + 1) = _; omega
    refine q_ne (b := 1) hs (by (first | exact B31_s (by omega) (by omega) | exact B31_of _ | (constructor <;> omega))) (fun h3 => ?_) (fun h3 => ?_)
    · exact go 0 (Or.inr ⟨by omega, rfl⟩)
    · exact go 1 (Or.inl ⟨h3, rfl⟩)
