/-! judge: the class -/
def wcd (w : Int) : Int := if w = 0 then 11 else if w = 1 then 7 else if w = 2 then 12 else if w = 3 then 13 else if w = 4 then 14 else 15
abbrev CP (P : PS) (ip pw pf pq : F32) : Prop :=
  (ip 3 = eI P.n) ∧
  (∀ i, i < P.n → pw i = eI (wcd (P.w i))) ∧
  (∀ i, i < P.n → P.w i < 2 ∨ P.w i = 2 ∨ P.w i = 4 → pf i = eI (P.a i)) ∧
  (∀ i, i < P.n → P.w i = 2 → pq i = eI (P.b i))
theorem CP.n {P : PS} {ip pw pf pq : F32} (h : CP P ip pw pf pq) : ip 3 = eI P.n := h.1
theorem CP.w {P : PS} {ip pw pf pq : F32} (h : CP P ip pw pf pq) : ∀ i, i < P.n → pw i = eI (wcd (P.w i)) := h.2.1
theorem CP.a {P : PS} {ip pw pf pq : F32} (h : CP P ip pw pf pq) : ∀ i, i < P.n → P.w i < 2 ∨ P.w i = 2 ∨ P.w i = 4 → pf i = eI (P.a i) := h.2.2.1
theorem CP.b {P : PS} {ip pw pf pq : F32} (h : CP P ip pw pf pq) : ∀ i, i < P.n → P.w i = 2 → pq i = eI (P.b i) := h.2.2.2
theorem CT.c {τ : Nat → Int} {T T' : TS} {it it' i i' kk L W S E P H ih hst hsz hun hk P' H' : F32} (C : CT τ T it i kk L W S E P H ih hst hsz hun hk) (hr : RowR τ (TX τ T') T'.hd (hb τ T'.hd) i' kk L W S E P' H') (hrun : it' 2 = eI T'.run) (hv : T'.v = T.v) (hvs : T'.vs = T.vs) (hvu : T'.vu = T.vu) (hvk : T'.vk = T.vk) : CT τ T' it' i' kk L W S E P' H' ih hst hsz hun hk := by
  refine ⟨hr, hrun, by rw [hv]; exact C.v, by rw [hv, hvs]; exact C.st, by rw [hv, hvs]; exact C.sz, by rw [hv, hvu]; exact C.un, by rw [hv, hvs]; exact C.sa, by rw [hv, hvs, hvk]; exact C.kd⟩
theorem C_runMoves {τ : Nat → Int} (O : LOk τ) {T : TS} (K : TOk τ T) {il gl hl d : F32} (I : LnI τ il) (G : LnG τ gl) (HH : LnH τ hl) (D : LnK τ d) {ic it i kk L W S E P H ih hst hsz hun hk b : F32} (C : CT τ T it i kk L W S E P H ih hst hsz hun hk) {s : Int} {q : Int32} (hsq : (s = 1 ∧ q = 1) ∨ (s = 0 ∧ q = 0)) {N : Nat} (hN : N ≤ 400) {Q : Int32 → F32 → QT} (hq : ∀ ic' it' i' kk' L' W' S' E' P' H' ih' hst' hsz' hun' hk' b', ic' 1 = ic 1 → ic' 2 = ic 2 + eI (mvs τ s N T).1 → ic' 3 = ic 3 + eI ((if s = 1 then (mvs τ s N T).1 else 0 : Nat) : Int) → CT τ (mvs τ s N T).2.2 it' i' kk' L' W' S' E' P' H' ih' hst' hsz' hun' hk' → Q (eI (mvs τ s N T).2.1) ic' it' i' L' W' P' b' S' E' ih' hst' hsz' hun' hk' kk' H') : w_Judge_runMoves ic il it i L gl W P b S E ih hst hsz hun hk kk hl H d (eI N) q Q := by
  unfold w_Judge_runMoves
  refine lg_Judge_runMoves_6 (G := Nat) (fun g x5 x6 ic' it' i' L' W' P' b' S' E' ih' hst' hsz' hun' hk' kk' H' => ic' 1 = ic 1 ∧ ((g = 0 ∧ (mvs τ s N T).2.1 ≠ 0 ∧ x5 = eI (mvs τ s N T).2.1 ∧ (∃ u : Nat, u ≤ N ∧ x6 = eI u) ∧ ic' 2 = ic 2 + eI (mvs τ s N T).1 ∧ ic' 3 = ic 3 + eI ((if s = 1 then (mvs τ s N T).1 else 0 : Nat) : Int) ∧ CT τ (mvs τ s N T).2.2 it' i' kk' L' W' S' E' P' H' ih' hst' hsz' hun' hk') ∨ ∃ (m : Nat) (T' : TS), g = N - m + 1 ∧ m ≤ N ∧ x5 = eI 0 ∧ x6 = eI m ∧ ic' 2 = ic 2 + eI m ∧ ic' 3 = ic 3 + eI ((if s = 1 then m else 0 : Nat) : Int) ∧ CT τ T' it' i' kk' L' W' S' E' P' H' ih' hst' hsz' hun' hk' ∧ TOk τ T' ∧ (mvs τ s N T).1 = m + (mvs τ s (N - m) T').1 ∧ (mvs τ s N T).2 = (mvs τ s (N - m) T').2)) (fun g => g) ?_ (N + 1) ⟨rfl, Or.inr ⟨0, T, by omega, by omega, rfl, rfl, by show _ = _ + 0; simp, by split <;> (show _ = _ + 0; simp), C, K, by rw [Nat.sub_zero]; omega, by rw [Nat.sub_zero]⟩⟩
  rintro kr g x5 x6 ic' it' i' L' W' P' b' S' E' ih' hst' hsz' hun' hk' kk' H' ⟨h1, hd⟩ hstep
  have hbd := mvs_bd τ s N T
  unfold b_Judge_runMoves_6
  rcases hd with ⟨rfl, hne, rfl, ⟨u, hu, rfl⟩, g2, g3, C'⟩ | ⟨m, T', rfl, hm, rfl, rfl, g2, g3, C', K', he1, he2⟩
  · have fin := hq ic' it' i' kk' L' W' S' E' P' H' ih' hst' hsz' hun' hk' b' h1 g2 g3 C'
    refine q_le (by (first | exact B31_s (by omega) (by omega) | exact B31_of _ | (constructor <;> omega))) (by (first | exact B31_s (by omega) (by omega) | exact B31_of _ | (constructor <;> omega))) (fun _ => fin) (fun _ => ?_)
    exact q_ne (b := 0) (by (first | exact B31_s (by omega) (by omega) | exact B31_of _ | (constructor <;> omega))) (by (first | exact B31_s (by omega) (by omega) | exact B31_of _ | (constructor <;> omega))) (fun _ => fin) (fun h => absurd h hne)
  · refine q_le (by (first | exact B31_s (by omega) (by omega) | exact B31_of _ | (constructor <;> omega))) (by (first | exact B31_s (by omega) (by omega) | exact B31_of _ | (constructor <;> omega))) (fun h => ?_) (fun h => ?_)
    · have em : N - m = 0 := by omega
      rw [em] at he1 he2
      have h1' : (mvs τ s N T).1 = m := by rw [he1]; rfl
      have := hq ic' it' i' kk' L' W' S' E' P' H' ih' hst' hsz' hun' hk' b' h1 (by rw [h1']; exact g2) (by rw [h1']; exact g3) (by rw [he2]; exact C')
      rw [he2] at this
      exact this
    · refine q_ne (b := 0) (by (first | exact B31_s (by omega) (by omega) | exact B31_of _ | (constructor <;> omega))) (by (first | exact B31_s (by omega) (by omega) | exact B31_of _ | (constructor <;> omega))) (fun h => by omega) (fun _ => ?_)
      have em : N - m = (N - (m + 1)) + 1 := by omega
      rw [em, mvs] at he1 he2
      refine C_move O K' I G HH D C' hsq (fun hno => ?_) (fun hlt hno i2 b2 C2 => ?_) (fun hlt hok it2 i2 kk2 L2 W2 S2 E2 P2 H2 ih2 hst2 hsz2 hun2 hk2 b2 C2 => ?_)
      · rw [if_neg hno] at he1 he2
        have h1' : (mvs τ s N T).1 = m := by rw [he1]; rfl
        refine ⟨fun _ => ?_, fun h => absurd h (by decide)⟩
        refine hstep 0 _ _ _ _ _ _ _ _ _ _ _ _ _ _ _ _ _ _ (by omega) ⟨h1, Or.inl ⟨rfl, ?_, ?_, ⟨m + 1, by omega, by (try simp only [eI_lit, eI_neg, eI_add, eI_sub, eI_mul, eF_ap, upd_eF]); congr 1⟩, ?_, ?_, ?_⟩⟩
        · rw [he2]; show (2 : Int) ≠ 0; omega
        · rw [he2]; rfl
        · rw [h1']; exact g2
        · rw [h1']; exact g3
        · rw [he2]; exact C'
      · rw [if_pos hlt, if_neg hno] at he1 he2
        have h1' : (mvs τ s N T).1 = m := by rw [he1]; rfl
        refine ⟨fun _ => ?_, fun h => absurd h (by decide)⟩
        refine hstep 0 _ _ _ _ _ _ _ _ _ _ _ _ _ _ _ _ _ _ (by omega) ⟨h1, Or.inl ⟨rfl, ?_, ?_, ⟨m + 1, by omega, by (try simp only [eI_lit, eI_neg, eI_add, eI_sub, eI_mul, eF_ap, upd_eF]); congr 1⟩, ?_, ?_, ?_⟩⟩
        · rw [he2]; show (1 : Int) ≠ 0; omega
        · rw [he2]; rfl
        · rw [h1']; exact g2
        · rw [h1']; exact g3
        · rw [he2]; exact C2
      · rw [if_pos hlt, if_pos hok] at he1 he2
        refine ⟨fun h => absurd rfl h, fun _ => ?_⟩
        have K2 := TOk.mv3 O K' hlt (runN τ T' (s = 1))
        have a1 : ∀ v : Int32, v + eI (m : Int) + 1 = v + eI ((m + 1 : Nat) : Int) := fun v => by
          have : eI ((m + 1 : Nat) : Int) = eI m + 1 := by (try simp only [eI_lit, eI_neg, eI_add, eI_sub, eI_mul, eF_ap, upd_eF]); congr 1
          rw [this, Int32.add_assoc]
        have nx : ∀ ic2 : F32, ic2 1 = ic 1 → ic2 2 = ic 2 + eI ((m + 1 : Nat) : Int) → ic2 3 = ic 3 + eI ((if s = 1 then m + 1 else 0 : Nat) : Int) → kr 0 (eI m + 1) ic2 it2 i2 L2 W2 P2 b2 S2 E2 ih2 hst2 hsz2 hun2 hk2 kk2 H2 := fun ic2 k1 k2 k3 => by
          refine hstep (N - (m + 1) + 1) _ _ _ _ _ _ _ _ _ _ _ _ _ _ _ _ _ _ (by omega) ⟨k1, Or.inr ⟨m + 1, _, rfl, by omega, rfl, by (try simp only [eI_lit, eI_neg, eI_add, eI_sub, eI_mul, eF_ap, upd_eF]); congr 1, k2, k3, C2, K2, ?_, he2⟩⟩
          rw [he1]; show m + (_ + 1) = _; omega
        rcases hsq with ⟨rfl, rfl⟩ | ⟨rfl, rfl⟩
        · refine ⟨fun h => absurd h (by decide), fun _ => nx _ ?_ ?_ ?_⟩
          · rw [upd_n (by omega), upd_n (by omega)]; exact h1
          · rw [upd_n (by omega), upd_s, g2, a1]
          · rw [upd_s, upd_n (by omega), g3, if_pos rfl, if_pos rfl, a1]
        · refine ⟨fun _ => nx _ ?_ ?_ ?_, fun h => absurd rfl h⟩
          · rw [upd_n (by omega), upd_n (by omega)]; exact h1
          · rw [upd_n (by omega), upd_s, g2, a1]
          · rw [upd_s, upd_n (by omega), g3, if_neg (by omega), if_neg (by omega)]; simp
abbrev QJ := F32 → F32 → F32 → F32 → F32 → F32 → F32 → F32 → F32 → F32 → F32 → F32 → F32 → F32 → F32 → F32 → Prop
theorem C_runRow {τ : Nat → Int} (O : LOk τ) {T : TS} (K : TOk τ T) {il gl hl d : F32} (I : LnI τ il) (G : LnG τ gl) (HH : LnH τ hl) (D : LnK τ d) {ic it i kk L W S E P H ih hst hsz hun hk b : F32} (C : CT τ T it i kk L W S E P H ih hst hsz hun hk) {w x y : Int} {xa ya : Int32} (hw : 0 ≤ w ∧ w ≤ 5) (hg : w < 2 → 1 ≤ x ∧ x ≤ 400) (hh : w = 2 ∨ w = 4 → 0 ≤ x ∧ x ≤ 19) (hxa : w < 2 ∨ w = 2 ∨ w = 4 → xa = eI x) (hya : w = 2 → ya = eI y) {Q : Int32 → QJ} (hq : ∀ ic' it' i' kk' L' W' S' E' P' H' ih' hst' hsz' hun' hk' b', ic' 1 = ic 1 → ic' 2 = ic 2 + eI (dr τ w x y T).2.2 → ic' 3 = ic 3 + eI ((if w = 1 then (dr τ w x y T).2.2 else 0 : Nat) : Int) → CT τ (dr τ w x y T).2.1 it' i' kk' L' W' S' E' P' H' ih' hst' hsz' hun' hk' → Q (eI (dr τ w x y T).1) ic' it' i' H' P' ih' hst' hsz' hun' L' hk' kk' W' b' S' E') : w_Judge_runRow ic il it i H P ih hst hsz hun L hk kk gl W b S E hl d (eI (wcd w)) xa ya Q := by
  have n18 := K.n18 O
  have h4 := K.hp4
  have hn20 : (TX τ T).n ≤ 20 := by show T.n ≤ 20; omega
  have j10 : ∀ v : Int32, v = v + eI ((0 : Nat) : Int) := fun v => by show v = v + 0; simp
  have hcases : w = 0 ∨ w = 1 ∨ w = 2 ∨ w = 3 ∨ w = 4 ∨ w = 5 := by omega
  have fin : (dr τ w x y T).2.2 = 0 → ∀ c, (dr τ w x y T).1 = c → ∀ it' i' H' P' ih' hst' hsz' hun' hk', CT τ (dr τ w x y T).2.1 it' i' kk L W S E P' H' ih' hst' hsz' hun' hk' → Q (eI c) ic it' i' H' P' ih' hst' hsz' hun' L hk' kk W b S E := fun hm c hc it' i' H' P' ih' hst' hsz' hun' hk' C' => by
    have := hq ic it' i' kk L W S E P' H' ih' hst' hsz' hun' hk' b rfl (by rw [hm]; exact j10 _) (by rw [hm]; split <;> exact j10 _) C'
    rw [hc] at this; exact this
  unfold w_Judge_runRow
  rcases hcases with rfl | rfl | rfl | rfl | rfl | rfl
  · have hd : dr τ 0 x y T = ((mvs τ 0 x.toNat T).2.1, (mvs τ 0 x.toNat T).2.2, (mvs τ 0 x.toNat T).1) := by unfold dr; rw [if_pos (by omega)]
    rw [hd] at hq
    obtain ⟨x1, x2⟩ := hg (by omega)
    have ex : x = ((x.toNat : Nat) : Int) := by omega
    rw [hxa (by omega), show wcd 0 = 11 from rfl]
    refine ⟨fun h => absurd h (by decide), fun _ => ⟨fun h => absurd h (by decide), fun _ => ⟨fun h => absurd h (by decide), fun _ => ⟨fun h => absurd h (by decide), fun _ => ⟨fun _ => ?_, fun h => absurd rfl h⟩⟩⟩⟩⟩
    rw [ex]
    refine C_runMoves O K I G HH D C (Or.inr ⟨rfl, rfl⟩) (by omega) (fun ic' it' i' kk' L' W' S' E' P' H' ih' hst' hsz' hun' hk' b' k1 k2 k3 C' => ?_)
    exact hq ic' it' i' kk' L' W' S' E' P' H' ih' hst' hsz' hun' hk' b' k1 k2 k3 C'
  · have hd : dr τ 1 x y T = ((mvs τ 1 x.toNat T).2.1, (mvs τ 1 x.toNat T).2.2, (mvs τ 1 x.toNat T).1) := by unfold dr; rw [if_pos (by omega)]
    rw [hd] at hq
    obtain ⟨x1, x2⟩ := hg (by omega)
    have ex : x = ((x.toNat : Nat) : Int) := by omega
    rw [hxa (by omega), show wcd 1 = 7 from rfl]
    refine ⟨fun _ => ?_, fun h => absurd rfl h⟩
    rw [ex]
    refine C_runMoves O K I G HH D C (Or.inl ⟨rfl, rfl⟩) (by omega) (fun ic' it' i' kk' L' W' S' E' P' H' ih' hst' hsz' hun' hk' b' k1 k2 k3 C' => ?_)
    exact hq ic' it' i' kk' L' W' S' E' P' H' ih' hst' hsz' hun' hk' b' k1 k2 k3 C'
  · have hd : dr τ 2 x y T = (if (T.n : Int) ≤ x then (3, T, 0) else if T.hp.length = 4 then (5, T, 0) else (0, addH T x y, 0)) := by unfold dr; rw [if_neg (by omega), if_pos rfl]
    obtain ⟨x1, x2⟩ := hh (Or.inl rfl)
    have ex : x = ((x.toNat : Nat) : Int) := by omega
    rw [hxa (by omega), hya rfl, show wcd 2 = 12 from rfl]
    refine ⟨fun h => absurd h (by decide), fun _ => ⟨fun h => absurd h (by decide), fun _ => ⟨fun h => absurd h (by decide), fun _ => ⟨fun h => absurd h (by decide), fun _ => ⟨fun h => absurd h (by decide), fun _ => ⟨fun _ => ?_, fun h => absurd rfl h⟩⟩⟩⟩⟩⟩
    unfold w_Judge_runHelp
    have es : i 8 = eI T.n := C.row.sz
    rw [es]
    refine q_lt (by (first | exact B31_s (by omega) (by omega) | exact B31_of _ | (constructor <;> omega))) (by (first | exact B31_s (by omega) (by omega) | exact B31_of _ | (constructor <;> omega))) (fun hlt => ?_) (fun hge => ?_)
    · rw [if_neg (by omega)] at hd
      refine R_helperCount C.row hn20 ?_
      have ec : sm (TX τ T).h (TX τ T).n = T.hp.length := sm_cS K.hpa
      rw [ec]
      refine q_lt (b := 4) (by (first | exact B31_s (by omega) (by omega) | exact B31_of _ | (constructor <;> omega))) (by (first | exact B31_s (by omega) (by omega) | exact B31_of _ | (constructor <;> omega))) (fun h5 => ?_) (fun h5 => ?_)
      · rw [if_neg (by omega)] at hd
        rw [ex]
        refine R_help C.row hn20 (m := x.toNat) (by show x.toNat < T.n; omega) (fun P3 H3 r3 => ?_)
        refine fin (by rw [hd]) 0 (by rw [hd]) _ _ _ _ _ _ _ _ _ ?_
        rw [hd]
        refine C.c (RowR.congr ?_ r3) C.run rfl rfl rfl rfl
        refine ⟨rfl, fun j hj => ⟨rfl, rfl, rfl, ?_, ?_⟩⟩
        · show updI (fun i : Nat => pS T.hp i) x.toNat (pS T.hp (x.toNat : Nat) + y) j = pS (T.hp ++ [(x, y)]) j
          have : ∀ (l : List (Int × Int)) (u v z : Int), pS (l ++ [(u, v)]) z = pS l z + if u = z then v else 0 := fun l u v z => by
            induction l with
            | nil => simp [pS]
            | cons p l ih => simp only [List.cons_append, pS, ih]; omega
          rw [this]
          by_cases hjx : j = x.toNat
          · subst hjx; rw [updI_s, if_pos (by omega)]
          · rw [updI_n _ hjx, if_neg (by omega)]; omega
        · show updI (fun i : Nat => cS T.hp i) x.toNat (cS T.hp (x.toNat : Nat) + 1) j = cS (T.hp ++ [(x, y)]) j
          have : ∀ (l : List (Int × Int)) (u v z : Int), cS (l ++ [(u, v)]) z = cS l z + if u = z then 1 else 0 := fun l u v z => by
            induction l with
            | nil => simp [cS]
            | cons p l ih => simp only [List.cons_append, cS, ih]; omega
          rw [this]
          by_cases hjx : j = x.toNat
          · subst hjx; rw [updI_s, if_pos (by omega)]
          · rw [updI_n _ hjx, if_neg (by omega)]; omega
      · rw [if_pos (by omega)] at hd
        exact fin (by rw [hd]) 5 (by rw [hd]) _ _ _ _ _ _ _ _ _ (by rw [hd]; exact C)
    · rw [if_pos (by omega)] at hd
      exact fin (by rw [hd]) 3 (by rw [hd]) _ _ _ _ _ _ _ _ _ (by rw [hd]; exact C)
  · have hd : dr τ 3 x y T = (if T.hp.length = 0 then (4, T, 0) else (0, offH T, 0)) := by unfold dr; rw [if_neg (by omega), if_neg (by omega), if_pos rfl]
    rw [show wcd 3 = 13 from rfl]
    refine ⟨fun h => absurd h (by decide), fun _ => ⟨fun h => absurd h (by decide), fun _ => ⟨fun h => absurd h (by decide), fun _ => ⟨fun h => absurd h (by decide), fun _ => ⟨fun h => absurd h (by decide), fun _ => ⟨fun h => absurd h (by decide), fun _ => ⟨fun _ => ?_, fun h => absurd rfl h⟩⟩⟩⟩⟩⟩⟩
    unfold w_Judge_runOff
    refine R_helperCount C.row hn20 ?_
    have ec : sm (TX τ T).h (TX τ T).n = T.hp.length := sm_cS K.hpa
    rw [ec]
    refine q_ne (b := 0) (by (first | exact B31_s (by omega) (by omega) | exact B31_of _ | (constructor <;> omega))) (by (first | exact B31_s (by omega) (by omega) | exact B31_of _ | (constructor <;> omega))) (fun h5 => ?_) (fun h5 => ?_)
    · rw [if_neg (by omega)] at hd
      refine R_dismiss C.row hn20 (fun P3 H3 r3 => ?_)
      refine fin (by rw [hd]) 0 (by rw [hd]) _ _ _ _ _ _ _ _ _ ?_
      rw [hd]
      refine C.c (RowR.congr ?_ r3) C.run rfl rfl rfl rfl
      exact ⟨rfl, fun j hj => ⟨rfl, rfl, rfl, rfl, rfl⟩⟩
    · rw [if_pos (by omega)] at hd
      exact fin (by rw [hd]) 4 (by rw [hd]) _ _ _ _ _ _ _ _ _ (by rw [hd]; exact C)
  · have hd : dr τ 4 x y T = (if (T.n : Int) ≤ x then (3, T, 0) else (0, cutT τ T x.toNat, 0)) := by unfold dr; rw [if_neg (by omega), if_neg (by omega), if_neg (by omega), if_pos rfl]
    obtain ⟨x1, x2⟩ := hh (Or.inr rfl)
    have ex : x = ((x.toNat : Nat) : Int) := by omega
    rw [hxa (by omega), show wcd 4 = 14 from rfl]
    refine ⟨fun h => absurd h (by decide), fun _ => ⟨fun h => absurd h (by decide), fun _ => ⟨fun h => absurd h (by decide), fun _ => ⟨fun h => absurd h (by decide), fun _ => ⟨fun h => absurd h (by decide), fun _ => ⟨fun h => absurd h (by decide), fun _ => ⟨fun h => absurd h (by decide), fun _ => ⟨fun _ => ?_, fun h => absurd rfl h⟩⟩⟩⟩⟩⟩⟩⟩
    unfold w_Judge_runCut
    have es : i 8 = eI T.n := C.row.sz
    rw [es]
    refine q_lt (by (first | exact B31_s (by omega) (by omega) | exact B31_of _ | (constructor <;> omega))) (by (first | exact B31_s (by omega) (by omega) | exact B31_of _ | (constructor <;> omega))) (fun hlt => ?_) (fun hge => ?_)
    · rw [if_neg (by omega)] at hd
      rw [ex]
      refine C_part (it := it) O K C.row C.v C.st C.sz C.un C.sa C.kd (m := x.toNat) (by omega) (fun ih' i' hst' hsz' hun' hk' rr g5 g1 gs gu ga gk => ?_)
      refine fin (by rw [hd]) 0 (by rw [hd]) _ _ _ _ _ _ _ _ _ ?_
      rw [hd]
      exact ⟨rr, C.run, g5, g1, gs, gu, ga, gk⟩
    · rw [if_pos (by omega)] at hd
      exact fin (by rw [hd]) 3 (by rw [hd]) _ _ _ _ _ _ _ _ _ (by rw [hd]; exact C)
  · have hd : dr τ 5 x y T = (if eI T.run = 0 then (6, T, 0) else (0, restT T, 0)) := by unfold dr; rw [if_neg (by omega), if_neg (by omega), if_neg (by omega), if_neg (by omega)]
    rw [show wcd 5 = 15 from rfl]
    refine ⟨fun h => absurd h (by decide), fun _ => ⟨fun h => absurd h (by decide), fun _ => ⟨fun h => absurd h (by decide), fun _ => ⟨fun h => absurd h (by decide), fun _ => ⟨fun h => absurd h (by decide), fun _ => ⟨fun h => absurd h (by decide), fun _ => ⟨fun h => absurd h (by decide), fun _ => ⟨fun h => absurd h (by decide), fun _ => ?_⟩⟩⟩⟩⟩⟩⟩⟩
    unfold w_Judge_runRest
    rw [C.run]
    refine ⟨fun hne => ?_, fun heq => ?_⟩
    · rw [if_neg hne] at hd
      refine fin (by rw [hd]) 0 (by rw [hd]) _ _ _ _ _ _ _ _ _ ?_
      rw [hd]
      refine C.c (RowR.congr ?_ C.row) upd_s rfl rfl rfl rfl
      exact ⟨rfl, fun j hj => ⟨rfl, rfl, rfl, rfl, rfl⟩⟩
    · rw [if_pos heq] at hd
      exact fin (by rw [hd]) 6 (by rw [hd]) _ _ _ _ _ _ _ _ _ (by rw [hd]; exact C)
theorem C_run {τ : Nat → Int} (O : LOk τ) {T : TS} (K : TOk τ T) {P : PS} (PK : POk P) {ip pw pf pq : F32} (CP' : CP P ip pw pf pq) {il gl hl d : F32} (I : LnI τ il) (G : LnG τ gl) (HH : LnH τ hl) (D : LnK τ d) {ic td it i kk L W S E Pu H ih hst hsz hun hk b : F32} (C : CT τ T it i kk L W S E Pu H ih hst hsz hun hk) {Q : Int32 → F32 → F32 → F32 → F32 → F32 → F32 → F32 → F32 → F32 → F32 → F32 → F32 → F32 → F32 → F32 → F32 → F32 → Prop} (hq : ∀ ic' td' it' i' kk' L' W' S' E' P' H' ih' hst' hsz' hun' hk' b', ic' 1 = 1 → td' 0 = eI (jd τ P P.n 0 T 0 0).2.1 → td' 1 = eI (jd τ P P.n 0 T 0 0).2.2.2.1 → td' 2 = eI (jd τ P P.n 0 T 0 0).2.2.2.2 → td' 3 = eI (jd τ P P.n 0 T 0 0).2.2.1.hd → td' 4 = eI (jd τ P P.n 0 T 0 0).2.2.1.n → td' 5 = eI (jd τ P P.n 0 T 0 0).2.2.1.v → CT τ (jd τ P P.n 0 T 0 0).2.2.1 it' i' kk' L' W' S' E' P' H' ih' hst' hsz' hun' hk' → Q (eI (jd τ P P.n 0 T 0 0).1) ic' it' td' i' H' P' ih' hst' hsz' hun' L' hk' kk' W' b' S' E') : w_Judge_run ic ip il it td pw pf pq i H Pu ih hst hsz hun L hk kk gl W b S E hl d Q := by
  have hPn := PK.n
  unfold w_Judge_run
  refine lg_Judge_run_16 (G := Nat) (fun g x4 x5 ic' it' i' H' P' ih' hst' hsz' hun' L' hk' kk' W' b' S' E' => (g = 0 ∧ (jd τ P P.n 0 T 0 0).2.1 ≠ 0 ∧ 0 ≤ (jd τ P P.n 0 T 0 0).2.1 ∧ (jd τ P P.n 0 T 0 0).2.1 ≤ 6 ∧ x4 = eI (jd τ P P.n 0 T 0 0).2.1 ∧ x5 = eI ((jd τ P P.n 0 T 0 0).1 + 1) ∧ ic' 2 = eI (jd τ P P.n 0 T 0 0).2.2.2.1 ∧ ic' 3 = eI (jd τ P P.n 0 T 0 0).2.2.2.2 ∧ CT τ (jd τ P P.n 0 T 0 0).2.2.1 it' i' kk' L' W' S' E' P' H' ih' hst' hsz' hun' hk') ∨ ∃ (u m s : Nat) (T' : TS), g = P.n - u + 1 ∧ u ≤ P.n ∧ x4 = eI 0 ∧ x5 = eI u ∧ ic' 2 = eI m ∧ ic' 3 = eI s ∧ CT τ T' it' i' kk' L' W' S' E' P' H' ih' hst' hsz' hun' hk' ∧ TOk τ T' ∧ jd τ P (P.n - u) u T' m s = jd τ P P.n 0 T 0 0) (fun g => g) ?_ (P.n + 1) (Or.inr ⟨0, 0, 0, T, by omega, by omega, rfl, rfl, by rw [upd_n (by omega), upd_s]; rfl, by rw [upd_s]; rfl, C, K, by rw [Nat.sub_zero]⟩)
  rintro kr g x4 x5 ic' it' i' H' P' ih' hst' hsz' hun' L' hk' kk' W' b' S' E' hd hs
  have jw := jd_w τ P P.n 0 T 0 0
  unfold b_Judge_run_16
  rw [CP'.n]
  have fin : ∀ (x4 : Int) (x5 : Int), B31 x4 → x4 = (jd τ P P.n 0 T 0 0).2.1 → (x4 ≠ 0 → x5 - 1 = (jd τ P P.n 0 T 0 0).1) → (x4 = 0 → (jd τ P P.n 0 T 0 0).1 = -1) → ic' 2 = eI (jd τ P P.n 0 T 0 0).2.2.2.1 → ic' 3 = eI (jd τ P P.n 0 T 0 0).2.2.2.2 → CT τ (jd τ P P.n 0 T 0 0).2.2.1 it' i' kk' L' W' S' E' P' H' ih' hst' hsz' hun' hk' → j_Judge_run_65 ic' it' td i' H' P' ih' hst' hsz' hun' L' hk' kk' W' b' S' E' (eI x4) (eI x5) Q := fun x4 x5 hb e4 e5 e6 g2 g3 C' => by
    unfold j_Judge_run_65
    have es : i' 8 = eI (jd τ P P.n 0 T 0 0).2.2.1.n := C'.row.sz
    rw [upd_n (by omega), upd_n (by omega), g2, g3, C'.row.hd, es, C'.v]
    have all := hq (upd ic' 1 1) (upd (upd (upd (upd (upd (upd td 0 (eI x4)) 1 (eI (jd τ P P.n 0 T 0 0).2.2.2.1)) 2 (eI (jd τ P P.n 0 T 0 0).2.2.2.2)) 3 (eI (jd τ P P.n 0 T 0 0).2.2.1.hd)) 4 (eI (jd τ P P.n 0 T 0 0).2.2.1.n)) 5 (eI (jd τ P P.n 0 T 0 0).2.2.1.v)) it' i' kk' L' W' S' E' P' H' ih' hst' hsz' hun' hk' b' upd_s
      (by rw [upd_n (by omega), upd_n (by omega), upd_n (by omega), upd_n (by omega), upd_n (by omega), upd_s, e4])
      (by rw [upd_n (by omega), upd_n (by omega), upd_n (by omega), upd_n (by omega), upd_s])
      (by rw [upd_n (by omega), upd_n (by omega), upd_n (by omega), upd_s])
      (by rw [upd_n (by omega), upd_n (by omega), upd_s])
      (by rw [upd_n (by omega), upd_s])
      (by rw [upd_s]) C'
    refine q_ne (b := 0) hb (by (first | exact B31_s (by omega) (by omega) | exact B31_of _ | (constructor <;> omega))) (fun hne => ?_) (fun heq => ?_)
    · have : eI x5 - 1 = eI (jd τ P P.n 0 T 0 0).1 := by rw [← e5 hne]; (try simp only [eI_lit, eI_neg, eI_add, eI_sub, eI_mul, eF_ap, upd_eF])
      rw [this]; exact all
    · rw [e6 heq] at all; exact all
  rcases hd with ⟨rfl, hne, h0, h6, rfl, rfl, g2, g3, C'⟩ | ⟨u, m, s, T', rfl, hu, rfl, rfl, g2, g3, C', K', he⟩
  · have f := fin (jd τ P P.n 0 T 0 0).2.1 ((jd τ P P.n 0 T 0 0).1 + 1) (by (first | exact B31_s (by omega) (by omega) | exact B31_of _ | (constructor <;> omega))) rfl (fun _ => by omega) (fun h => absurd h hne) g2 g3 C'
    refine q_le (by (first | exact B31_s (by omega) (by omega) | exact B31_of _ | (constructor <;> omega))) (by (first | exact B31_s (by omega) (by omega) | exact B31_of _ | (constructor <;> omega))) (fun _ => f) (fun _ => ?_)
    exact q_ne (b := 0) (by (first | exact B31_s (by omega) (by omega) | exact B31_of _ | (constructor <;> omega))) (by (first | exact B31_s (by omega) (by omega) | exact B31_of _ | (constructor <;> omega))) (fun _ => f) (fun h => absurd h hne)
  · refine q_le (by (first | exact B31_s (by omega) (by omega) | exact B31_of _ | (constructor <;> omega))) (by (first | exact B31_s (by omega) (by omega) | exact B31_of _ | (constructor <;> omega))) (fun hge => ?_) (fun hlt => ?_)
    · have eu : P.n - u = 0 := by omega
      rw [eu] at he
      have he' : (-1, 0, T', m, s) = jd τ P P.n 0 T 0 0 := he
      exact fin 0 u (by (first | exact B31_s (by omega) (by omega) | exact B31_of _ | (constructor <;> omega))) (by rw [← he']) (fun h => absurd rfl h) (fun _ => by rw [← he']) (by rw [← he']; exact g2) (by rw [← he']; exact g3) (by rw [← he']; exact C')
    · refine q_ne (b := 0) (by (first | exact B31_s (by omega) (by omega) | exact B31_of _ | (constructor <;> omega))) (by (first | exact B31_s (by omega) (by omega) | exact B31_of _ | (constructor <;> omega))) (fun h => by omega) (fun _ => ?_)
      have hwu := PK.w u (by omega)
      refine And.intro (eI_in (by omega) (by omega) (by omega)) ?_; refine And.intro (eI_in (by omega) (by omega) (by omega)) ?_; refine And.intro (eI_in (by omega) (by omega) (by omega)) ?_; (try simp (disch := omega) only [eI_cl, Int.toNat_natCast])
      rw [CP'.w u (by omega)]
      have hdb := dr_bd τ (P.w u) (P.a u) (P.b u) T'
      have eu : P.n - u = (P.n - (u + 1)) + 1 := by omega
      rw [eu, jd] at he
      refine C_runRow O K' I G HH D C' hwu (PK.g u (by omega)) (PK.h u (by omega)) (CP'.a u (by omega)) (CP'.b u (by omega)) (fun ic2 it2 i2 kk2 L2 W2 S2 E2 P2 H2 ih2 hst2 hsz2 hun2 hk2 b2 k1 k2 k3 C2 => ?_)
      have m2 : ic2 2 = eI ((m + (dr τ (P.w u) (P.a u) (P.b u) T').2.2 : Nat) : Int) := by rw [k2, g2]; (try simp only [eI_lit, eI_neg, eI_add, eI_sub, eI_mul, eF_ap, upd_eF]); congr 1
      have m3 : ic2 3 = eI ((s + (if P.w u = 1 then (dr τ (P.w u) (P.a u) (P.b u) T').2.2 else 0) : Nat) : Int) := by rw [k3, g3]; (try simp only [eI_lit, eI_neg, eI_add, eI_sub, eI_mul, eF_ap, upd_eF]); congr 1
      by_cases hz : (dr τ (P.w u) (P.a u) (P.b u) T').1 = 0
      · rw [if_pos hz] at he
        have ha : TOk τ (dr τ (P.w u) (P.a u) (P.b u) T').2.1 := by
          have := jd_ok O PK 1 u T' 0 0 (by omega) K'
          unfold jd at this
          rw [if_pos hz] at this
          exact this
        exact hs (P.n - (u + 1) + 1) _ _ _ _ _ _ _ _ _ _ _ _ _ _ _ _ _ _ (by omega) (Or.inr ⟨u + 1, _, _, _, rfl, by omega, by rw [hz], by (try simp only [eI_lit, eI_neg, eI_add, eI_sub, eI_mul, eF_ap, upd_eF]); congr 1, m2, m3, C2, ha, he⟩)
      · rw [if_neg hz] at he
        refine hs 0 _ _ _ _ _ _ _ _ _ _ _ _ _ _ _ _ _ _ (by omega) (Or.inl ⟨rfl, ?_, ?_, ?_, ?_, ?_, ?_, ?_, ?_⟩)
        · rw [← he]; exact hz
        · rw [← he]; exact hdb.1
        · rw [← he]; exact hdb.2
        · rw [← he]
        · rw [← he]; (try simp only [eI_lit, eI_neg, eI_add, eI_sub, eI_mul, eF_ap, upd_eF])
        · rw [m2, ← he]
        · rw [m3, ← he]
        · rw [← he]; exact C2
