/-! the calls of the reference (mkops2.py) -/
theorem RT.p {τ σ σ' : Nat → Int} (O : LOk τ) (e : Eqv τ σ) (h : ∀ q, q < 977 → σ' q = σ q) {T : TS} (R : RT σ T) (K : TOk τ T) : RT σ' T := by
  have n18 := K.n18 O
  have h4 := K.hp4
  have hvge := tn_ge K.vs1
  have e' : Eqv τ σ' := fun j hj => by rw [h j (by omega)]; exact e j hj
  refine ⟨by rw [h 483 (by omega)]; exact R.hd, by rw [h 484 (by omega)]; exact R.n, by rw [h 485 (by omega)]; exact R.run, by rw [h 486 (by omega)]; exact R.m, fun q p hqp => ?_, fun j hj => ?_, fun j hj => ?_, by rw [h 536 (by omega)]; exact R.v, fun j hj => by rw [h _ (by omega)]; exact R.vs j hj, fun j hj => by rw [h _ (by omega)]; exact R.vu j hj, fun j hj q hq => ?_, fun q hq1 hq2 => ?_⟩
  · have hql : q < T.hp.length := (List.getElem?_eq_some_iff.mp hqp).1
    rw [h _ (by omega), h _ (by omega)]; exact R.ha q p hqp
  · rw [h _ (by omega)]; exact R.k j hj
  · rw [h _ (by omega)]; exact R.w j hj
  · have htm := tn_mono (f := T.vs) hj
    rw [h _ (by omega)]; exact R.vk j hj q hq
  · have hhc := O.hc
    rw [h 1 (by omega)] at hq1
    have hq1' : (q : Int) < τ 1 := by rw [e 1 (by omega)] at hq1; exact hq1
    rw [h 535 (by omega)]
    rw [AT_c e' (by omega) (by omega), ← AT_c e (by omega) (by omega)] at hq2
    exact R.came q hq1 hq2
theorem a255 (x : Int32) : 0 ≤ (x &&& 255).toInt ∧ (x &&& 255).toInt ≤ 255 := by
  have h : (x &&& 255).toBitVec.toNat ≤ 255 := by
    rw [Int32.toBitVec_and, BitVec.toNat_and]
    exact Nat.le_trans Nat.and_le_right (by decide)
  have e : (x &&& 255).toInt = ((x &&& 255).toBitVec.toNat : Int) := by
    show (x &&& 255).toBitVec.toInt = _
    exact BitVec.toInt_eq_toNat_of_lt (by omega)
  omega
/-- the tape as a text -/
def eT (Z : ZT) (L : Nat) : TXX := (fun q => (Z.tr q &&& 255).toInt, Z.n, L)
theorem eT_k {Z : ZT} {L : Nat} (hn : Z.n ≤ 940) (hL : L ≤ 940) : TK (eT Z L) := ⟨⟨hn, fun j _ => a255 (Z.tr j)⟩, hL⟩
theorem eT_r {Z : ZT} {L : Nat} {tp : F32} (h : tp = Z.tr) : ∀ q, q < (eT Z L).2.1 → tp q &&& 255 = eI ((eT Z L).1 q) := fun q _ => by
  rw [h]; exact (eI_of _).symm
theorem eT_c {Z : ZT} {L : Nat} {tp : F32} (h : Tp Z.n tp Z.tr) : ∀ q, q < (eT Z L).2.1 → tp q = eI ((eT Z L).1 q) := fun q hq => by
  rw [h q hq]; exact (eI_of _).symm

set_option maxRecDepth 100000 in
set_option maxHeartbeats 4000000 in
theorem N_fault (l : Launch) (D : va_G) (k : Nat → ClassId) {am : Nat} {σ : Nat → Int} {T : TS} {P : PS} {Z : ZT} {im : Nat → Option VT} {w : va_W} (V : ZOk σ T P Z im) (h : MS k am σ T P Z im w) : CtI l yX12_fault cX12_fault 1 (some .int) 0 0 0 0 D k [.ref am] w (fun r w' => r = Z.fk ∧ MS k am σ T P Z im w') := by
  obtain ⟨d_t, i_t, j_t, r_t_tape, r_t_s, r_t_h, r_t_read, r_t_names, r_t_reserved, r_t_wagons, r_t_foremost, r_t_bears, r_t_strengths, r_t_worn, r_t_worst, r_t_places, r_t_bestPlaces, r_t_loadMay, r_t_loadAt, r_t_told, r_t_mostLoads, r_t_judgedAt, r_t_before, r_t_kept, r_t_namesKept, r_t_isKept, rfl, M⟩ := h
  have hs := M.s
  subst hs
  refine CtI.mono (cf_LongTrainModel_fault l D k am d_t i_t j_t r_t_tape (eF σ) r_t_h r_t_read r_t_names r_t_reserved r_t_wagons r_t_foremost r_t_bears r_t_strengths r_t_worn r_t_worst r_t_places r_t_bestPlaces r_t_loadMay r_t_loadAt r_t_told r_t_mostLoads r_t_judgedAt r_t_before r_t_kept r_t_namesKept r_t_isKept  (fun r i_t' => r = Z.fk ∧ MF σ T P Z im i_t' (eF σ) r_t_tape r_t_bestPlaces r_t_loadAt r_t_judgedAt r_t_reserved r_t_isKept r_t_kept) ?_) (fun r w1_ hq => ?_)
  · unfold w_LongTrainModel_fault
    exact ⟨(upd_n (by omega)).trans M.f, M.kp KP.u0⟩
  · obtain ⟨i_t', rfl, hr⟩ := hq
    obtain ⟨hr, M'⟩ := hr
    exact ⟨hr, d_t, i_t', j_t, r_t_tape, (eF σ), r_t_h, r_t_read, r_t_names, r_t_reserved, r_t_wagons, r_t_foremost, r_t_bears, r_t_strengths, r_t_worn, r_t_worst, r_t_places, r_t_bestPlaces, r_t_loadMay, r_t_loadAt, r_t_told, r_t_mostLoads, r_t_judgedAt, r_t_before, r_t_kept, r_t_namesKept, r_t_isKept, rfl, M'⟩

set_option maxRecDepth 100000 in
set_option maxHeartbeats 4000000 in
theorem N_train (l : Launch) (D : va_G) (k : Nat → ClassId) {am : Nat} {σ : Nat → Int} {T : TS} {P : PS} {Z : ZT} {im : Nat → Option VT} {w : va_W} (V : ZOk σ T P Z im) (h : MS k am σ T P Z im w) {v1 : Int} (b1 : B31 v1) : CtI l yX12_train cX12_train 4 (some .int) 3 67 0 0 D k [.ref am, .int (eI v1)] w (fun r w' => r = trainS σ T (eI v1) ∧ MS k am σ T P Z im w') := by
  obtain ⟨d_t, i_t, j_t, r_t_tape, r_t_s, r_t_h, r_t_read, r_t_names, r_t_reserved, r_t_wagons, r_t_foremost, r_t_bears, r_t_strengths, r_t_worn, r_t_worst, r_t_places, r_t_bestPlaces, r_t_loadMay, r_t_loadAt, r_t_told, r_t_mostLoads, r_t_judgedAt, r_t_before, r_t_kept, r_t_namesKept, r_t_isKept, rfl, M⟩ := h
  have hs := M.s
  subst hs
  refine CtI.mono (cf_LongTrainModel_train l D k am d_t i_t j_t r_t_tape (eF σ) r_t_h r_t_read r_t_names r_t_reserved r_t_wagons r_t_foremost r_t_bears r_t_strengths r_t_worn r_t_worst r_t_places r_t_bestPlaces r_t_loadMay r_t_loadAt r_t_told r_t_mostLoads r_t_judgedAt r_t_before r_t_kept r_t_namesKept r_t_isKept (eI v1) (fun r i_t' r_t_wagons' r_t_foremost' r_t_bears' => r = trainS σ T (eI v1) ∧ MF σ T P Z im i_t' (eF σ) r_t_tape r_t_bestPlaces r_t_loadAt r_t_judgedAt r_t_reserved r_t_isKept r_t_kept) ?_) (fun r w1_ hq => ?_)
  · exact M_train V.O Eqv.rf M.R V.K (fun _ _ _ _ K => ⟨rfl, M.kp K⟩)
  · obtain ⟨i_t', r_t_wagons', r_t_foremost', r_t_bears', rfl, hr⟩ := hq
    obtain ⟨hr, M'⟩ := hr
    exact ⟨hr, d_t, i_t', j_t, r_t_tape, (eF σ), r_t_h, r_t_read, r_t_names, r_t_reserved, r_t_wagons', r_t_foremost', r_t_bears', r_t_strengths, r_t_worn, r_t_worst, r_t_places, r_t_bestPlaces, r_t_loadMay, r_t_loadAt, r_t_told, r_t_mostLoads, r_t_judgedAt, r_t_before, r_t_kept, r_t_namesKept, r_t_isKept, rfl, M'⟩

set_option maxRecDepth 100000 in
set_option maxHeartbeats 4000000 in
theorem N_span (l : Launch) (D : va_G) (k : Nat → ClassId) {am : Nat} {σ : Nat → Int} {T : TS} {P : PS} {Z : ZT} {im : Nat → Option VT} {w : va_W} (V : ZOk σ T P Z im) (h : MS k am σ T P Z im w) {v1 : Int} (b1 : B31 v1) {v2 : Int} (b2 : B31 v2) {v3 : Int} (b3 : B31 v3) : CtI l yX12_span cX12_span 9 (some .int) 2 44 0 0 D k [.ref am, .int (eI v1), .int (eI v2), .int (eI v3)] w (fun r w' => r = eI (spanS σ v1 v2 v3) ∧ MS k am σ T P Z im w') := by
  obtain ⟨d_t, i_t, j_t, r_t_tape, r_t_s, r_t_h, r_t_read, r_t_names, r_t_reserved, r_t_wagons, r_t_foremost, r_t_bears, r_t_strengths, r_t_worn, r_t_worst, r_t_places, r_t_bestPlaces, r_t_loadMay, r_t_loadAt, r_t_told, r_t_mostLoads, r_t_judgedAt, r_t_before, r_t_kept, r_t_namesKept, r_t_isKept, rfl, M⟩ := h
  have hs := M.s
  subst hs
  refine CtI.mono (cf_LongTrainModel_span l D k am d_t i_t j_t r_t_tape (eF σ) r_t_h r_t_read r_t_names r_t_reserved r_t_wagons r_t_foremost r_t_bears r_t_strengths r_t_worn r_t_worst r_t_places r_t_bestPlaces r_t_loadMay r_t_loadAt r_t_told r_t_mostLoads r_t_judgedAt r_t_before r_t_kept r_t_namesKept r_t_isKept (eI v1) (eI v2) (eI v3) (fun r i_t' r_t_wagons' => r = eI (spanS σ v1 v2 v3) ∧ MF σ T P Z im i_t' (eF σ) r_t_tape r_t_bestPlaces r_t_loadAt r_t_judgedAt r_t_reserved r_t_isKept r_t_kept) ?_) (fun r w1_ hq => ?_)
  · exact M_span V.O b1 b2 b3 (fun _ _ K => ⟨rfl, M.kp K⟩)
  · obtain ⟨i_t', r_t_wagons', rfl, hr⟩ := hq
    obtain ⟨hr, M'⟩ := hr
    exact ⟨hr, d_t, i_t', j_t, r_t_tape, (eF σ), r_t_h, r_t_read, r_t_names, r_t_reserved, r_t_wagons', r_t_foremost, r_t_bears, r_t_strengths, r_t_worn, r_t_worst, r_t_places, r_t_bestPlaces, r_t_loadMay, r_t_loadAt, r_t_told, r_t_mostLoads, r_t_judgedAt, r_t_before, r_t_kept, r_t_namesKept, r_t_isKept, rfl, M'⟩

set_option maxRecDepth 100000 in
set_option maxHeartbeats 4000000 in
theorem N_loop (l : Launch) (D : va_G) (k : Nat → ClassId) {am : Nat} {σ : Nat → Int} {T : TS} {P : PS} {Z : ZT} {im : Nat → Option VT} {w : va_W} (V : ZOk σ T P Z im) (h : MS k am σ T P Z im w) {v1 : Int} (b1 : B31 v1) {v2 : Int} (b2 : B31 v2) : CtI l yX12_loop cX12_loop 3 (some .int) 1 22 0 0 D k [.ref am, .int (eI v1), .int (eI v2)] w (fun r w' => r = eI (loopS σ v1 v2) ∧ MS k am σ T P Z im w') := by
  obtain ⟨d_t, i_t, j_t, r_t_tape, r_t_s, r_t_h, r_t_read, r_t_names, r_t_reserved, r_t_wagons, r_t_foremost, r_t_bears, r_t_strengths, r_t_worn, r_t_worst, r_t_places, r_t_bestPlaces, r_t_loadMay, r_t_loadAt, r_t_told, r_t_mostLoads, r_t_judgedAt, r_t_before, r_t_kept, r_t_namesKept, r_t_isKept, rfl, M⟩ := h
  have hs := M.s
  subst hs
  refine CtI.mono (cf_LongTrainModel_loop l D k am d_t i_t j_t r_t_tape (eF σ) r_t_h r_t_read r_t_names r_t_reserved r_t_wagons r_t_foremost r_t_bears r_t_strengths r_t_worn r_t_worst r_t_places r_t_bestPlaces r_t_loadMay r_t_loadAt r_t_told r_t_mostLoads r_t_judgedAt r_t_before r_t_kept r_t_namesKept r_t_isKept (eI v1) (eI v2) (fun r i_t' => r = eI (loopS σ v1 v2) ∧ MF σ T P Z im i_t' (eF σ) r_t_tape r_t_bestPlaces r_t_loadAt r_t_judgedAt r_t_reserved r_t_isKept r_t_kept) ?_) (fun r w1_ hq => ?_)
  · exact M_loop V.O b1 b2 (fun _ K => ⟨rfl, M.kp K⟩)
  · obtain ⟨i_t', rfl, hr⟩ := hq
    obtain ⟨hr, M'⟩ := hr
    exact ⟨hr, d_t, i_t', j_t, r_t_tape, (eF σ), r_t_h, r_t_read, r_t_names, r_t_reserved, r_t_wagons, r_t_foremost, r_t_bears, r_t_strengths, r_t_worn, r_t_worst, r_t_places, r_t_bestPlaces, r_t_loadMay, r_t_loadAt, r_t_told, r_t_mostLoads, r_t_judgedAt, r_t_before, r_t_kept, r_t_namesKept, r_t_isKept, rfl, M'⟩

set_option maxRecDepth 100000 in
set_option maxHeartbeats 4000000 in
theorem N_climb (l : Launch) (D : va_G) (k : Nat → ClassId) {am : Nat} {σ : Nat → Int} {T : TS} {P : PS} {Z : ZT} {im : Nat → Option VT} {w : va_W} (V : ZOk σ T P Z im) (h : MS k am σ T P Z im w) {v1 : Int} (b1 : B31 v1) {v2 : Int} (b2 : B31 v2) {v3 : Int} (b3 : B31 v3) : CtI l yX12_climb cX12_climb 4 (some .int) 4 92 0 0 D k [.ref am, .int (eI v1), .int (eI v2), .int (eI v3)] w (fun r w' => r = eI (climbS σ v1 v2 v3) ∧ MS k am σ T P Z im w') := by
  obtain ⟨d_t, i_t, j_t, r_t_tape, r_t_s, r_t_h, r_t_read, r_t_names, r_t_reserved, r_t_wagons, r_t_foremost, r_t_bears, r_t_strengths, r_t_worn, r_t_worst, r_t_places, r_t_bestPlaces, r_t_loadMay, r_t_loadAt, r_t_told, r_t_mostLoads, r_t_judgedAt, r_t_before, r_t_kept, r_t_namesKept, r_t_isKept, rfl, M⟩ := h
  have hs := M.s
  subst hs
  refine CtI.mono (cf_LongTrainModel_climb l D k am d_t i_t j_t r_t_tape (eF σ) r_t_h r_t_read r_t_names r_t_reserved r_t_wagons r_t_foremost r_t_bears r_t_strengths r_t_worn r_t_worst r_t_places r_t_bestPlaces r_t_loadMay r_t_loadAt r_t_told r_t_mostLoads r_t_judgedAt r_t_before r_t_kept r_t_namesKept r_t_isKept (eI v1) (eI v2) (eI v3) (fun r i_t' r_t_wagons' r_t_foremost' r_t_bears' => r = eI (climbS σ v1 v2 v3) ∧ MF σ T P Z im i_t' (eF σ) r_t_tape r_t_bestPlaces r_t_loadAt r_t_judgedAt r_t_reserved r_t_isKept r_t_kept) ?_) (fun r w1_ hq => ?_)
  · exact M_climb V.O b1 b2 b3 (fun _ _ _ _ K => ⟨rfl, M.kp K⟩)
  · obtain ⟨i_t', r_t_wagons', r_t_foremost', r_t_bears', rfl, hr⟩ := hq
    obtain ⟨hr, M'⟩ := hr
    exact ⟨hr, d_t, i_t', j_t, r_t_tape, (eF σ), r_t_h, r_t_read, r_t_names, r_t_reserved, r_t_wagons', r_t_foremost', r_t_bears', r_t_strengths, r_t_worn, r_t_worst, r_t_places, r_t_bestPlaces, r_t_loadMay, r_t_loadAt, r_t_told, r_t_mostLoads, r_t_judgedAt, r_t_before, r_t_kept, r_t_namesKept, r_t_isKept, rfl, M'⟩

set_option maxRecDepth 100000 in
set_option maxHeartbeats 4000000 in
theorem N_sanded (l : Launch) (D : va_G) (k : Nat → ClassId) {am : Nat} {σ : Nat → Int} {T : TS} {P : PS} {Z : ZT} {im : Nat → Option VT} {w : va_W} (V : ZOk σ T P Z im) (h : MS k am σ T P Z im w) {v1 : Int} (b1 : B31 v1) {v2 : Int} (b2 : B31 v2) {v3 : Int} (b3 : B31 v3) : CtI l yX12_sanded cX12_sanded 5 (some .int) 4 92 0 0 D k [.ref am, .int (eI v1), .int (eI v2), .int (eI v3)] w (fun r w' => r = eI (sandS σ v1 v2 v3) ∧ MS k am σ T P Z im w') := by
  obtain ⟨d_t, i_t, j_t, r_t_tape, r_t_s, r_t_h, r_t_read, r_t_names, r_t_reserved, r_t_wagons, r_t_foremost, r_t_bears, r_t_strengths, r_t_worn, r_t_worst, r_t_places, r_t_bestPlaces, r_t_loadMay, r_t_loadAt, r_t_told, r_t_mostLoads, r_t_judgedAt, r_t_before, r_t_kept, r_t_namesKept, r_t_isKept, rfl, M⟩ := h
  have hs := M.s
  subst hs
  refine CtI.mono (cf_LongTrainModel_sanded l D k am d_t i_t j_t r_t_tape (eF σ) r_t_h r_t_read r_t_names r_t_reserved r_t_wagons r_t_foremost r_t_bears r_t_strengths r_t_worn r_t_worst r_t_places r_t_bestPlaces r_t_loadMay r_t_loadAt r_t_told r_t_mostLoads r_t_judgedAt r_t_before r_t_kept r_t_namesKept r_t_isKept (eI v1) (eI v2) (eI v3) (fun r i_t' r_t_wagons' r_t_foremost' r_t_bears' => r = eI (sandS σ v1 v2 v3) ∧ MF σ T P Z im i_t' (eF σ) r_t_tape r_t_bestPlaces r_t_loadAt r_t_judgedAt r_t_reserved r_t_isKept r_t_kept) ?_) (fun r w1_ hq => ?_)
  · exact M_sanded V.O b1 b2 b3 (fun _ _ _ _ K => ⟨rfl, M.kp K⟩)
  · obtain ⟨i_t', r_t_wagons', r_t_foremost', r_t_bears', rfl, hr⟩ := hq
    obtain ⟨hr, M'⟩ := hr
    exact ⟨hr, d_t, i_t', j_t, r_t_tape, (eF σ), r_t_h, r_t_read, r_t_names, r_t_reserved, r_t_wagons', r_t_foremost', r_t_bears', r_t_strengths, r_t_worn, r_t_worst, r_t_places, r_t_bestPlaces, r_t_loadMay, r_t_loadAt, r_t_told, r_t_mostLoads, r_t_judgedAt, r_t_before, r_t_kept, r_t_namesKept, r_t_isKept, rfl, M'⟩

set_option maxRecDepth 100000 in
set_option maxHeartbeats 4000000 in
theorem N_needed (l : Launch) (D : va_G) (k : Nat → ClassId) {am : Nat} {σ : Nat → Int} {T : TS} {P : PS} {Z : ZT} {im : Nat → Option VT} {w : va_W} (V : ZOk σ T P Z im) (h : MS k am σ T P Z im w) {v1 : Int} (b1 : B31 v1) {v2 : Int} (b2 : B31 v2) : CtI l yX12_needed cX12_needed 6 (some .int) 3 66 0 0 D k [.ref am, .int (eI v1), .int (eI v2)] w (fun r w' => r = neA σ v1 v2 ∧ MS k am σ T P Z im w') := by
  obtain ⟨d_t, i_t, j_t, r_t_tape, r_t_s, r_t_h, r_t_read, r_t_names, r_t_reserved, r_t_wagons, r_t_foremost, r_t_bears, r_t_strengths, r_t_worn, r_t_worst, r_t_places, r_t_bestPlaces, r_t_loadMay, r_t_loadAt, r_t_told, r_t_mostLoads, r_t_judgedAt, r_t_before, r_t_kept, r_t_namesKept, r_t_isKept, rfl, M⟩ := h
  have hs := M.s
  subst hs
  refine CtI.mono (cf_LongTrainModel_needed l D k am d_t i_t j_t r_t_tape (eF σ) r_t_h r_t_read r_t_names r_t_reserved r_t_wagons r_t_foremost r_t_bears r_t_strengths r_t_worn r_t_worst r_t_places r_t_bestPlaces r_t_loadMay r_t_loadAt r_t_told r_t_mostLoads r_t_judgedAt r_t_before r_t_kept r_t_namesKept r_t_isKept (eI v1) (eI v2) (fun r i_t' r_t_wagons' r_t_foremost' r_t_bears' => r = neA σ v1 v2 ∧ MF σ T P Z im i_t' (eF σ) r_t_tape r_t_bestPlaces r_t_loadAt r_t_judgedAt r_t_reserved r_t_isKept r_t_kept) ?_) (fun r w1_ hq => ?_)
  · exact M_needed V.O b1 b2 (fun _ _ _ _ K => ⟨rfl, M.kp K⟩)
  · obtain ⟨i_t', r_t_wagons', r_t_foremost', r_t_bears', rfl, hr⟩ := hq
    obtain ⟨hr, M'⟩ := hr
    exact ⟨hr, d_t, i_t', j_t, r_t_tape, (eF σ), r_t_h, r_t_read, r_t_names, r_t_reserved, r_t_wagons', r_t_foremost', r_t_bears', r_t_strengths, r_t_worn, r_t_worst, r_t_places, r_t_bestPlaces, r_t_loadMay, r_t_loadAt, r_t_told, r_t_mostLoads, r_t_judgedAt, r_t_before, r_t_kept, r_t_namesKept, r_t_isKept, rfl, M'⟩

set_option maxRecDepth 100000 in
set_option maxHeartbeats 4000000 in
theorem N_helped (l : Launch) (D : va_G) (k : Nat → ClassId) {am : Nat} {σ : Nat → Int} {T : TS} {P : PS} {Z : ZT} {im : Nat → Option VT} {w : va_W} (V : ZOk σ T P Z im) (h : MS k am σ T P Z im w) {v1 : Int} (b1 : B31 v1) {v2 : Int} (b2 : B31 v2) {v3 : Int} (b3 : B31 v3) {v4 : Int} (b4 : B31 v4) : CtI l yX12_helped cX12_helped 8 (some .int) 4 94 0 0 D k [.ref am, .int (eI v1), .int (eI v2), .int (eI v3), .int (eI v4)] w (fun r w' => r = helpS σ v1 v2 v3 v4 ∧ MS k am σ T P Z im w') := by
  obtain ⟨d_t, i_t, j_t, r_t_tape, r_t_s, r_t_h, r_t_read, r_t_names, r_t_reserved, r_t_wagons, r_t_foremost, r_t_bears, r_t_strengths, r_t_worn, r_t_worst, r_t_places, r_t_bestPlaces, r_t_loadMay, r_t_loadAt, r_t_told, r_t_mostLoads, r_t_judgedAt, r_t_before, r_t_kept, r_t_namesKept, r_t_isKept, rfl, M⟩ := h
  have hs := M.s
  subst hs
  refine CtI.mono (cf_LongTrainModel_helped l D k am d_t i_t j_t r_t_tape (eF σ) r_t_h r_t_read r_t_names r_t_reserved r_t_wagons r_t_foremost r_t_bears r_t_strengths r_t_worn r_t_worst r_t_places r_t_bestPlaces r_t_loadMay r_t_loadAt r_t_told r_t_mostLoads r_t_judgedAt r_t_before r_t_kept r_t_namesKept r_t_isKept (eI v1) (eI v2) (eI v3) (eI v4) (fun r i_t' r_t_wagons' r_t_foremost' r_t_bears' => r = helpS σ v1 v2 v3 v4 ∧ MF σ T P Z im i_t' (eF σ) r_t_tape r_t_bestPlaces r_t_loadAt r_t_judgedAt r_t_reserved r_t_isKept r_t_kept) ?_) (fun r w1_ hq => ?_)
  · exact M_helped V.O b1 b2 b3 b4 (fun _ _ _ _ K => ⟨rfl, M.kp K⟩)
  · obtain ⟨i_t', r_t_wagons', r_t_foremost', r_t_bears', rfl, hr⟩ := hq
    obtain ⟨hr, M'⟩ := hr
    exact ⟨hr, d_t, i_t', j_t, r_t_tape, (eF σ), r_t_h, r_t_read, r_t_names, r_t_reserved, r_t_wagons', r_t_foremost', r_t_bears', r_t_strengths, r_t_worn, r_t_worst, r_t_places, r_t_bestPlaces, r_t_loadMay, r_t_loadAt, r_t_told, r_t_mostLoads, r_t_judgedAt, r_t_before, r_t_kept, r_t_namesKept, r_t_isKept, rfl, M'⟩

set_option maxRecDepth 100000 in
set_option maxHeartbeats 4000000 in
theorem N_lives (l : Launch) (D : va_G) (k : Nat → ClassId) {am : Nat} {σ : Nat → Int} {T : TS} {P : PS} {Z : ZT} {im : Nat → Option VT} {w : va_W} (V : ZOk σ T P Z im) (h : MS k am σ T P Z im w) {v1 : Int} (b1 : B31 v1) : CtI l yX12_lives cX12_lives 2 (some .int) 4 91 0 0 D k [.ref am, .int (eI v1)] w (fun r w' => r = eI (livS σ v1) ∧ MS k am σ T P Z im w') := by
  obtain ⟨d_t, i_t, j_t, r_t_tape, r_t_s, r_t_h, r_t_read, r_t_names, r_t_reserved, r_t_wagons, r_t_foremost, r_t_bears, r_t_strengths, r_t_worn, r_t_worst, r_t_places, r_t_bestPlaces, r_t_loadMay, r_t_loadAt, r_t_told, r_t_mostLoads, r_t_judgedAt, r_t_before, r_t_kept, r_t_namesKept, r_t_isKept, rfl, M⟩ := h
  have hs := M.s
  subst hs
  refine CtI.mono (cf_LongTrainModel_lives l D k am d_t i_t j_t r_t_tape (eF σ) r_t_h r_t_read r_t_names r_t_reserved r_t_wagons r_t_foremost r_t_bears r_t_strengths r_t_worn r_t_worst r_t_places r_t_bestPlaces r_t_loadMay r_t_loadAt r_t_told r_t_mostLoads r_t_judgedAt r_t_before r_t_kept r_t_namesKept r_t_isKept (eI v1) (fun r i_t' r_t_wagons' r_t_strengths' r_t_worn' r_t_foremost' r_t_bears' => r = eI (livS σ v1) ∧ MF σ T P Z im i_t' (eF σ) r_t_tape r_t_bestPlaces r_t_loadAt r_t_judgedAt r_t_reserved r_t_isKept r_t_kept) ?_) (fun r w1_ hq => ?_)
  · exact M_lives V.O b1 (fun _ _ _ _ _ _ K => ⟨rfl, M.kp K⟩)
  · obtain ⟨i_t', r_t_wagons', r_t_strengths', r_t_worn', r_t_foremost', r_t_bears', rfl, hr⟩ := hq
    obtain ⟨hr, M'⟩ := hr
    exact ⟨hr, d_t, i_t', j_t, r_t_tape, (eF σ), r_t_h, r_t_read, r_t_names, r_t_reserved, r_t_wagons', r_t_foremost', r_t_bears', r_t_strengths', r_t_worn', r_t_worst, r_t_places, r_t_bestPlaces, r_t_loadMay, r_t_loadAt, r_t_told, r_t_mostLoads, r_t_judgedAt, r_t_before, r_t_kept, r_t_namesKept, r_t_isKept, rfl, M'⟩

set_option maxRecDepth 100000 in
set_option maxHeartbeats 4000000 in
theorem N_placed (l : Launch) (D : va_G) (k : Nat → ClassId) {am : Nat} {σ : Nat → Int} {T : TS} {P : PS} {Z : ZT} {im : Nat → Option VT} {w : va_W} (V : ZOk σ T P Z im) (h : MS k am σ T P Z im w) {v1 : Int} (b1 : B31 v1) : CtI l yX12_placed cX12_placed 2 (some .int) 1 22 0 0 D k [.ref am, .int (eI v1)] w (fun r w' => r = pcA Z v1 ∧ MS k am σ T P Z im w') := by
  obtain ⟨d_t, i_t, j_t, r_t_tape, r_t_s, r_t_h, r_t_read, r_t_names, r_t_reserved, r_t_wagons, r_t_foremost, r_t_bears, r_t_strengths, r_t_worn, r_t_worst, r_t_places, r_t_bestPlaces, r_t_loadMay, r_t_loadAt, r_t_told, r_t_mostLoads, r_t_judgedAt, r_t_before, r_t_kept, r_t_namesKept, r_t_isKept, rfl, M⟩ := h
  have hs := M.s
  subst hs
  refine CtI.mono (cf_LongTrainModel_placed l D k am d_t i_t j_t r_t_tape (eF σ) r_t_h r_t_read r_t_names r_t_reserved r_t_wagons r_t_foremost r_t_bears r_t_strengths r_t_worn r_t_worst r_t_places r_t_bestPlaces r_t_loadMay r_t_loadAt r_t_told r_t_mostLoads r_t_judgedAt r_t_before r_t_kept r_t_namesKept r_t_isKept (eI v1) (fun r i_t' => r = pcA Z v1 ∧ MF σ T P Z im i_t' (eF σ) r_t_tape r_t_bestPlaces r_t_loadAt r_t_judgedAt r_t_reserved r_t_isKept r_t_kept) ?_) (fun r w1_ hq => ?_)
  · refine M_placed b1 V.pm M.pm (fun _ K => ⟨?_, M.kp K⟩)
    unfold pcA
    by_cases h : 0 ≤ v1 ∧ v1 < (Z.pm : Int)
    · rw [if_pos h, if_pos h]; exact M.pp _ (by omega)
    · rw [if_neg h, if_neg h]
  · obtain ⟨i_t', rfl, hr⟩ := hq
    obtain ⟨hr, M'⟩ := hr
    exact ⟨hr, d_t, i_t', j_t, r_t_tape, (eF σ), r_t_h, r_t_read, r_t_names, r_t_reserved, r_t_wagons, r_t_foremost, r_t_bears, r_t_strengths, r_t_worn, r_t_worst, r_t_places, r_t_bestPlaces, r_t_loadMay, r_t_loadAt, r_t_told, r_t_mostLoads, r_t_judgedAt, r_t_before, r_t_kept, r_t_namesKept, r_t_isKept, rfl, M'⟩

set_option maxRecDepth 100000 in
set_option maxHeartbeats 4000000 in
theorem N_platform (l : Launch) (D : va_G) (k : Nat → ClassId) {am : Nat} {σ : Nat → Int} {T : TS} {P : PS} {Z : ZT} {im : Nat → Option VT} {w : va_W} (V : ZOk σ T P Z im) (h : MS k am σ T P Z im w) {v1 : Int} (b1 : B31 v1) : CtI l yX12_platform cX12_platform 2 (some .int) 4 89 0 0 D k [.ref am, .int (eI v1)] w (fun r w' => r = ptA σ v1 ∧ MS k am σ T P Z im w') := by
  obtain ⟨d_t, i_t, j_t, r_t_tape, r_t_s, r_t_h, r_t_read, r_t_names, r_t_reserved, r_t_wagons, r_t_foremost, r_t_bears, r_t_strengths, r_t_worn, r_t_worst, r_t_places, r_t_bestPlaces, r_t_loadMay, r_t_loadAt, r_t_told, r_t_mostLoads, r_t_judgedAt, r_t_before, r_t_kept, r_t_namesKept, r_t_isKept, rfl, M⟩ := h
  have hs := M.s
  subst hs
  refine CtI.mono (cf_LongTrainModel_platform l D k am d_t i_t j_t r_t_tape (eF σ) r_t_h r_t_read r_t_names r_t_reserved r_t_wagons r_t_foremost r_t_bears r_t_strengths r_t_worn r_t_worst r_t_places r_t_bestPlaces r_t_loadMay r_t_loadAt r_t_told r_t_mostLoads r_t_judgedAt r_t_before r_t_kept r_t_namesKept r_t_isKept (eI v1) (fun r i_t' r_t_wagons' r_t_foremost' r_t_bears' => r = ptA σ v1 ∧ MF σ T P Z im i_t' (eF σ) r_t_tape r_t_bestPlaces r_t_loadAt r_t_judgedAt r_t_reserved r_t_isKept r_t_kept) ?_) (fun r w1_ hq => ?_)
  · exact M_platform V.O b1 (fun h _ _ _ _ K => ⟨by unfold ptA; rw [if_neg h], M.kp K⟩) (fun h _ _ _ _ K => ⟨by unfold ptA; rw [if_pos h], M.kp K⟩)
  · obtain ⟨i_t', r_t_wagons', r_t_foremost', r_t_bears', rfl, hr⟩ := hq
    obtain ⟨hr, M'⟩ := hr
    exact ⟨hr, d_t, i_t', j_t, r_t_tape, (eF σ), r_t_h, r_t_read, r_t_names, r_t_reserved, r_t_wagons', r_t_foremost', r_t_bears', r_t_strengths, r_t_worn, r_t_worst, r_t_places, r_t_bestPlaces, r_t_loadMay, r_t_loadAt, r_t_told, r_t_mostLoads, r_t_judgedAt, r_t_before, r_t_kept, r_t_namesKept, r_t_isKept, rfl, M'⟩

set_option maxRecDepth 100000 in
set_option maxHeartbeats 4000000 in
theorem N_cook (l : Launch) (D : va_G) (k : Nat → ClassId) {am : Nat} {σ : Nat → Int} {T : TS} {P : PS} {Z : ZT} {im : Nat → Option VT} {w : va_W} (V : ZOk σ T P Z im) (h : MS k am σ T P Z im w) {v1 : Int} (b1 : B31 v1) {v2 : Int} (b2 : B31 v2) {v3 : Int} (b3 : B31 v3) : CtI l yX12_cook cX12_cook 10 (some .int) 3 67 0 0 D k [.ref am, .int (eI v1), .int (eI v2), .int (eI v3)] w (fun r w' => r = eI (cookS σ v1 v2 v3) ∧ MS k am σ T P Z im w') := by
  obtain ⟨d_t, i_t, j_t, r_t_tape, r_t_s, r_t_h, r_t_read, r_t_names, r_t_reserved, r_t_wagons, r_t_foremost, r_t_bears, r_t_strengths, r_t_worn, r_t_worst, r_t_places, r_t_bestPlaces, r_t_loadMay, r_t_loadAt, r_t_told, r_t_mostLoads, r_t_judgedAt, r_t_before, r_t_kept, r_t_namesKept, r_t_isKept, rfl, M⟩ := h
  have hs := M.s
  subst hs
  refine CtI.mono (cf_LongTrainModel_cook l D k am d_t i_t j_t r_t_tape (eF σ) r_t_h r_t_read r_t_names r_t_reserved r_t_wagons r_t_foremost r_t_bears r_t_strengths r_t_worn r_t_worst r_t_places r_t_bestPlaces r_t_loadMay r_t_loadAt r_t_told r_t_mostLoads r_t_judgedAt r_t_before r_t_kept r_t_namesKept r_t_isKept (eI v1) (eI v2) (eI v3) (fun r i_t' r_t_wagons' r_t_foremost' r_t_bears' => r = eI (cookS σ v1 v2 v3) ∧ MF σ T P Z im i_t' (eF σ) r_t_tape r_t_bestPlaces r_t_loadAt r_t_judgedAt r_t_reserved r_t_isKept r_t_kept) ?_) (fun r w1_ hq => ?_)
  · exact M_cook V.O b1 b2 b3 (fun _ _ _ _ K => ⟨rfl, M.kp K⟩)
  · obtain ⟨i_t', r_t_wagons', r_t_foremost', r_t_bears', rfl, hr⟩ := hq
    obtain ⟨hr, M'⟩ := hr
    exact ⟨hr, d_t, i_t', j_t, r_t_tape, (eF σ), r_t_h, r_t_read, r_t_names, r_t_reserved, r_t_wagons', r_t_foremost', r_t_bears', r_t_strengths, r_t_worn, r_t_worst, r_t_places, r_t_bestPlaces, r_t_loadMay, r_t_loadAt, r_t_told, r_t_mostLoads, r_t_judgedAt, r_t_before, r_t_kept, r_t_namesKept, r_t_isKept, rfl, M'⟩

set_option maxRecDepth 100000 in
set_option maxHeartbeats 4000000 in
theorem N_back (l : Launch) (D : va_G) (k : Nat → ClassId) {am : Nat} {σ : Nat → Int} {T : TS} {P : PS} {Z : ZT} {im : Nat → Option VT} {w : va_W} (V : ZOk σ T P Z im) (h : MS k am σ T P Z im w) {v1 : Int} (b1 : B31 v1) {v2 : Int} (b2 : B31 v2) {v3 : Int} (b3 : B31 v3) : CtI l yX12_back cX12_back 10 (some .int) 3 67 0 0 D k [.ref am, .int (eI v1), .int (eI v2), .int (eI v3)] w (fun r w' => r = eI (backS σ v1 v2 v3) ∧ MS k am σ T P Z im w') := by
  obtain ⟨d_t, i_t, j_t, r_t_tape, r_t_s, r_t_h, r_t_read, r_t_names, r_t_reserved, r_t_wagons, r_t_foremost, r_t_bears, r_t_strengths, r_t_worn, r_t_worst, r_t_places, r_t_bestPlaces, r_t_loadMay, r_t_loadAt, r_t_told, r_t_mostLoads, r_t_judgedAt, r_t_before, r_t_kept, r_t_namesKept, r_t_isKept, rfl, M⟩ := h
  have hs := M.s
  subst hs
  refine CtI.mono (cf_LongTrainModel_back l D k am d_t i_t j_t r_t_tape (eF σ) r_t_h r_t_read r_t_names r_t_reserved r_t_wagons r_t_foremost r_t_bears r_t_strengths r_t_worn r_t_worst r_t_places r_t_bestPlaces r_t_loadMay r_t_loadAt r_t_told r_t_mostLoads r_t_judgedAt r_t_before r_t_kept r_t_namesKept r_t_isKept (eI v1) (eI v2) (eI v3) (fun r i_t' r_t_wagons' r_t_foremost' r_t_bears' => r = eI (backS σ v1 v2 v3) ∧ MF σ T P Z im i_t' (eF σ) r_t_tape r_t_bestPlaces r_t_loadAt r_t_judgedAt r_t_reserved r_t_isKept r_t_kept) ?_) (fun r w1_ hq => ?_)
  · exact M_back V.O b1 b2 b3 (fun _ _ _ _ K => ⟨rfl, M.kp K⟩)
  · obtain ⟨i_t', r_t_wagons', r_t_foremost', r_t_bears', rfl, hr⟩ := hq
    obtain ⟨hr, M'⟩ := hr
    exact ⟨hr, d_t, i_t', j_t, r_t_tape, (eF σ), r_t_h, r_t_read, r_t_names, r_t_reserved, r_t_wagons', r_t_foremost', r_t_bears', r_t_strengths, r_t_worn, r_t_worst, r_t_places, r_t_bestPlaces, r_t_loadMay, r_t_loadAt, r_t_told, r_t_mostLoads, r_t_judgedAt, r_t_before, r_t_kept, r_t_namesKept, r_t_isKept, rfl, M'⟩

set_option maxRecDepth 100000 in
set_option maxHeartbeats 4000000 in
theorem N_room (l : Launch) (D : va_G) (k : Nat → ClassId) {am : Nat} {σ : Nat → Int} {T : TS} {P : PS} {Z : ZT} {im : Nat → Option VT} {w : va_W} (V : ZOk σ T P Z im) (h : MS k am σ T P Z im w) {v1 : Int} (b1 : B31 v1) : CtI l yX12_room cX12_room 2 (some .int) 3 66 0 0 D k [.ref am, .int (eI v1)] w (fun r w' => r = eI (roomS σ v1) ∧ MS k am σ T P Z im w') := by
  obtain ⟨d_t, i_t, j_t, r_t_tape, r_t_s, r_t_h, r_t_read, r_t_names, r_t_reserved, r_t_wagons, r_t_foremost, r_t_bears, r_t_strengths, r_t_worn, r_t_worst, r_t_places, r_t_bestPlaces, r_t_loadMay, r_t_loadAt, r_t_told, r_t_mostLoads, r_t_judgedAt, r_t_before, r_t_kept, r_t_namesKept, r_t_isKept, rfl, M⟩ := h
  have hs := M.s
  subst hs
  refine CtI.mono (cf_LongTrainModel_room l D k am d_t i_t j_t r_t_tape (eF σ) r_t_h r_t_read r_t_names r_t_reserved r_t_wagons r_t_foremost r_t_bears r_t_strengths r_t_worn r_t_worst r_t_places r_t_bestPlaces r_t_loadMay r_t_loadAt r_t_told r_t_mostLoads r_t_judgedAt r_t_before r_t_kept r_t_namesKept r_t_isKept (eI v1) (fun r i_t' r_t_wagons' r_t_foremost' r_t_bears' => r = eI (roomS σ v1) ∧ MF σ T P Z im i_t' (eF σ) r_t_tape r_t_bestPlaces r_t_loadAt r_t_judgedAt r_t_reserved r_t_isKept r_t_kept) ?_) (fun r w1_ hq => ?_)
  · exact M_room V.O b1 (fun _ _ _ _ K => ⟨rfl, M.kp K⟩)
  · obtain ⟨i_t', r_t_wagons', r_t_foremost', r_t_bears', rfl, hr⟩ := hq
    obtain ⟨hr, M'⟩ := hr
    exact ⟨hr, d_t, i_t', j_t, r_t_tape, (eF σ), r_t_h, r_t_read, r_t_names, r_t_reserved, r_t_wagons', r_t_foremost', r_t_bears', r_t_strengths, r_t_worn, r_t_worst, r_t_places, r_t_bestPlaces, r_t_loadMay, r_t_loadAt, r_t_told, r_t_mostLoads, r_t_judgedAt, r_t_before, r_t_kept, r_t_namesKept, r_t_isKept, rfl, M'⟩

set_option maxRecDepth 100000 in
set_option maxHeartbeats 4000000 in
theorem N_load (l : Launch) (D : va_G) (k : Nat → ClassId) {am : Nat} {σ : Nat → Int} {T : TS} {P : PS} {Z : ZT} {im : Nat → Option VT} {w : va_W} (V : ZOk σ T P Z im) (h : MS k am σ T P Z im w) {v1 : Int} (b1 : B31 v1) : CtI l yX12_load cX12_load 2 (some .int) 1 22 0 0 D k [.ref am, .int (eI v1)] w (fun r w' => r = loA Z v1 ∧ MS k am σ T P Z im w') := by
  obtain ⟨d_t, i_t, j_t, r_t_tape, r_t_s, r_t_h, r_t_read, r_t_names, r_t_reserved, r_t_wagons, r_t_foremost, r_t_bears, r_t_strengths, r_t_worn, r_t_worst, r_t_places, r_t_bestPlaces, r_t_loadMay, r_t_loadAt, r_t_told, r_t_mostLoads, r_t_judgedAt, r_t_before, r_t_kept, r_t_namesKept, r_t_isKept, rfl, M⟩ := h
  have hs := M.s
  subst hs
  refine CtI.mono (cf_LongTrainModel_load l D k am d_t i_t j_t r_t_tape (eF σ) r_t_h r_t_read r_t_names r_t_reserved r_t_wagons r_t_foremost r_t_bears r_t_strengths r_t_worn r_t_worst r_t_places r_t_bestPlaces r_t_loadMay r_t_loadAt r_t_told r_t_mostLoads r_t_judgedAt r_t_before r_t_kept r_t_namesKept r_t_isKept (eI v1) (fun r i_t' => r = loA Z v1 ∧ MF σ T P Z im i_t' (eF σ) r_t_tape r_t_bestPlaces r_t_loadAt r_t_judgedAt r_t_reserved r_t_isKept r_t_kept) ?_) (fun r w1_ hq => ?_)
  · refine M_load b1 V.lm.1 V.lm.2 M.lm (fun _ K => ⟨?_, M.kp K⟩)
    unfold loA
    by_cases h : 0 ≤ v1 ∧ v1 < Z.lm
    · rw [if_pos h, if_pos h]; exact M.lp _ (by omega)
    · rw [if_neg h, if_neg h]
  · obtain ⟨i_t', rfl, hr⟩ := hq
    obtain ⟨hr, M'⟩ := hr
    exact ⟨hr, d_t, i_t', j_t, r_t_tape, (eF σ), r_t_h, r_t_read, r_t_names, r_t_reserved, r_t_wagons, r_t_foremost, r_t_bears, r_t_strengths, r_t_worn, r_t_worst, r_t_places, r_t_bestPlaces, r_t_loadMay, r_t_loadAt, r_t_told, r_t_mostLoads, r_t_judgedAt, r_t_before, r_t_kept, r_t_namesKept, r_t_isKept, rfl, M'⟩

set_option maxRecDepth 100000 in
set_option maxHeartbeats 4000000 in
theorem N_cross (l : Launch) (D : va_G) (k : Nat → ClassId) {am : Nat} {σ : Nat → Int} {T : TS} {P : PS} {Z : ZT} {im : Nat → Option VT} {w : va_W} (V : ZOk σ T P Z im) (h : MS k am σ T P Z im w) {v1 : Int} (b1 : B31 v1) {v2 : Int} (b2 : B31 v2) {v3 : Int} (b3 : B31 v3) {v4 : Int} (b4 : B31 v4) {v5 : Int} (b5 : B31 v5) : CtI l yX12_cross cX12_cross 13 (some .int) 2 43 0 0 D k [.ref am, .int (eI v1), .int (eI v2), .int (eI v3), .int (eI v4), .int (eI v5)] w (fun r w' => r = eI (crossS σ v1 v2 v3 v4 v5) ∧ MS k am σ T P Z im w') := by
  obtain ⟨d_t, i_t, j_t, r_t_tape, r_t_s, r_t_h, r_t_read, r_t_names, r_t_reserved, r_t_wagons, r_t_foremost, r_t_bears, r_t_strengths, r_t_worn, r_t_worst, r_t_places, r_t_bestPlaces, r_t_loadMay, r_t_loadAt, r_t_told, r_t_mostLoads, r_t_judgedAt, r_t_before, r_t_kept, r_t_namesKept, r_t_isKept, rfl, M⟩ := h
  have hs := M.s
  subst hs
  refine CtI.mono (cf_LongTrainModel_cross l D k am d_t i_t j_t r_t_tape (eF σ) r_t_h r_t_read r_t_names r_t_reserved r_t_wagons r_t_foremost r_t_bears r_t_strengths r_t_worn r_t_worst r_t_places r_t_bestPlaces r_t_loadMay r_t_loadAt r_t_told r_t_mostLoads r_t_judgedAt r_t_before r_t_kept r_t_namesKept r_t_isKept (eI v1) (eI v2) (eI v3) (eI v4) (eI v5) (fun r i_t' => r = eI (crossS σ v1 v2 v3 v4 v5) ∧ MF σ T P Z im i_t' (eF σ) r_t_tape r_t_bestPlaces r_t_loadAt r_t_judgedAt r_t_reserved r_t_isKept r_t_kept) ?_) (fun r w1_ hq => ?_)
  · exact M_cross V.O b1 b2 b3 b4 b5 (fun _ K => ⟨rfl, M.kp K⟩)
  · obtain ⟨i_t', rfl, hr⟩ := hq
    obtain ⟨hr, M'⟩ := hr
    exact ⟨hr, d_t, i_t', j_t, r_t_tape, (eF σ), r_t_h, r_t_read, r_t_names, r_t_reserved, r_t_wagons, r_t_foremost, r_t_bears, r_t_strengths, r_t_worn, r_t_worst, r_t_places, r_t_bestPlaces, r_t_loadMay, r_t_loadAt, r_t_told, r_t_mostLoads, r_t_judgedAt, r_t_before, r_t_kept, r_t_namesKept, r_t_isKept, rfl, M'⟩

set_option maxRecDepth 100000 in
set_option maxHeartbeats 4000000 in
theorem N_ring (l : Launch) (D : va_G) (k : Nat → ClassId) {am : Nat} {σ : Nat → Int} {T : TS} {P : PS} {Z : ZT} {im : Nat → Option VT} {w : va_W} (V : ZOk σ T P Z im) (h : MS k am σ T P Z im w) {v1 : Int} (b1 : B31 v1) {v2 : Int} (b2 : B31 v2) {v3 : Int} (b3 : B31 v3) {v4 : Int} (b4 : B31 v4) : CtI l yX12_ring cX12_ring 7 (some .int) 2 43 0 0 D k [.ref am, .int (eI v1), .int (eI v2), .int (eI v3), .int (eI v4)] w (fun r w' => r = eI (ringS σ v1 v2 v3 v4) ∧ MS k am σ T P Z im w') := by
  obtain ⟨d_t, i_t, j_t, r_t_tape, r_t_s, r_t_h, r_t_read, r_t_names, r_t_reserved, r_t_wagons, r_t_foremost, r_t_bears, r_t_strengths, r_t_worn, r_t_worst, r_t_places, r_t_bestPlaces, r_t_loadMay, r_t_loadAt, r_t_told, r_t_mostLoads, r_t_judgedAt, r_t_before, r_t_kept, r_t_namesKept, r_t_isKept, rfl, M⟩ := h
  have hs := M.s
  subst hs
  refine CtI.mono (cf_LongTrainModel_ring l D k am d_t i_t j_t r_t_tape (eF σ) r_t_h r_t_read r_t_names r_t_reserved r_t_wagons r_t_foremost r_t_bears r_t_strengths r_t_worn r_t_worst r_t_places r_t_bestPlaces r_t_loadMay r_t_loadAt r_t_told r_t_mostLoads r_t_judgedAt r_t_before r_t_kept r_t_namesKept r_t_isKept (eI v1) (eI v2) (eI v3) (eI v4) (fun r i_t' => r = eI (ringS σ v1 v2 v3 v4) ∧ MF σ T P Z im i_t' (eF σ) r_t_tape r_t_bestPlaces r_t_loadAt r_t_judgedAt r_t_reserved r_t_isKept r_t_kept) ?_) (fun r w1_ hq => ?_)
  · exact M_ring V.O b1 b2 b3 b4 (fun _ K => ⟨rfl, M.kp K⟩)
  · obtain ⟨i_t', rfl, hr⟩ := hq
    obtain ⟨hr, M'⟩ := hr
    exact ⟨hr, d_t, i_t', j_t, r_t_tape, (eF σ), r_t_h, r_t_read, r_t_names, r_t_reserved, r_t_wagons, r_t_foremost, r_t_bears, r_t_strengths, r_t_worn, r_t_worst, r_t_places, r_t_bestPlaces, r_t_loadMay, r_t_loadAt, r_t_told, r_t_mostLoads, r_t_judgedAt, r_t_before, r_t_kept, r_t_namesKept, r_t_isKept, rfl, M'⟩

set_option maxRecDepth 100000 in
set_option maxHeartbeats 4000000 in
theorem N_judged (l : Launch) (D : va_G) (k : Nat → ClassId) {am : Nat} {σ : Nat → Int} {T : TS} {P : PS} {Z : ZT} {im : Nat → Option VT} {w : va_W} (V : ZOk σ T P Z im) (h : MS k am σ T P Z im w) {v1 : Int} (b1 : B31 v1) : CtI l yX12_judged cX12_judged 2 (some .int) 1 22 0 0 D k [.ref am, .int (eI v1)] w (fun r w' => r = juA Z v1 ∧ MS k am σ T P Z im w') := by
  obtain ⟨d_t, i_t, j_t, r_t_tape, r_t_s, r_t_h, r_t_read, r_t_names, r_t_reserved, r_t_wagons, r_t_foremost, r_t_bears, r_t_strengths, r_t_worn, r_t_worst, r_t_places, r_t_bestPlaces, r_t_loadMay, r_t_loadAt, r_t_told, r_t_mostLoads, r_t_judgedAt, r_t_before, r_t_kept, r_t_namesKept, r_t_isKept, rfl, M⟩ := h
  have hs := M.s
  subst hs
  refine CtI.mono (cf_LongTrainModel_judged l D k am d_t i_t j_t r_t_tape (eF σ) r_t_h r_t_read r_t_names r_t_reserved r_t_wagons r_t_foremost r_t_bears r_t_strengths r_t_worn r_t_worst r_t_places r_t_bestPlaces r_t_loadMay r_t_loadAt r_t_told r_t_mostLoads r_t_judgedAt r_t_before r_t_kept r_t_namesKept r_t_isKept (eI v1) (fun r i_t' => r = juA Z v1 ∧ MF σ T P Z im i_t' (eF σ) r_t_tape r_t_bestPlaces r_t_loadAt r_t_judgedAt r_t_reserved r_t_isKept r_t_kept) ?_) (fun r w1_ hq => ?_)
  · refine M_judged b1 (fun _ K => ⟨?_, M.kp K⟩)
    unfold juA
    rw [M.jh]
    cases hj : Z.jh with
    | false => rfl
    | true =>
      show (if (1 : Int32) = 0 then (-1 : Int32) else _) = (if 0 ≤ v1 ∧ v1 ≤ 5 then _ else _)
      rw [if_neg (by decide)]
      by_cases h : 0 ≤ v1 ∧ v1 ≤ 5
      · rw [if_pos h, if_pos h]; exact M.jt hj _ (by omega)
      · rw [if_neg h, if_neg h]
  · obtain ⟨i_t', rfl, hr⟩ := hq
    obtain ⟨hr, M'⟩ := hr
    exact ⟨hr, d_t, i_t', j_t, r_t_tape, (eF σ), r_t_h, r_t_read, r_t_names, r_t_reserved, r_t_wagons, r_t_foremost, r_t_bears, r_t_strengths, r_t_worn, r_t_worst, r_t_places, r_t_bestPlaces, r_t_loadMay, r_t_loadAt, r_t_told, r_t_mostLoads, r_t_judgedAt, r_t_before, r_t_kept, r_t_namesKept, r_t_isKept, rfl, M'⟩

set_option maxRecDepth 100000 in
set_option maxHeartbeats 4000000 in
theorem N_bet (l : Launch) (D : va_G) (k : Nat → ClassId) {am : Nat} {σ : Nat → Int} {T : TS} {P : PS} {Z : ZT} {im : Nat → Option VT} {w : va_W} (V : ZOk σ T P Z im) (h : MS k am σ T P Z im w) {v1 : Int} (b1 : B31 v1) : CtI l yX12_bet cX12_bet 2 (some .int) 4 90 0 0 D k [.ref am, .int (eI v1)] w (fun r w' => r = eI (betS σ (eI v1)) ∧ MS k am σ T P Z im w') := by
  obtain ⟨d_t, i_t, j_t, r_t_tape, r_t_s, r_t_h, r_t_read, r_t_names, r_t_reserved, r_t_wagons, r_t_foremost, r_t_bears, r_t_strengths, r_t_worn, r_t_worst, r_t_places, r_t_bestPlaces, r_t_loadMay, r_t_loadAt, r_t_told, r_t_mostLoads, r_t_judgedAt, r_t_before, r_t_kept, r_t_namesKept, r_t_isKept, rfl, M⟩ := h
  have hs := M.s
  subst hs
  refine CtI.mono (cf_LongTrainModel_bet l D k am d_t i_t j_t r_t_tape (eF σ) r_t_h r_t_read r_t_names r_t_reserved r_t_wagons r_t_foremost r_t_bears r_t_strengths r_t_worn r_t_worst r_t_places r_t_bestPlaces r_t_loadMay r_t_loadAt r_t_told r_t_mostLoads r_t_judgedAt r_t_before r_t_kept r_t_namesKept r_t_isKept (eI v1) (fun r i_t' r_t_foremost' r_t_wagons' r_t_bears' r_t_strengths' r_t_worn' => r = eI (betS σ (eI v1)) ∧ MF σ T P Z im i_t' (eF σ) r_t_tape r_t_bestPlaces r_t_loadAt r_t_judgedAt r_t_reserved r_t_isKept r_t_kept) ?_) (fun r w1_ hq => ?_)
  · exact M_bet V.O (fun _ _ _ _ _ _ K => ⟨rfl, M.kp K⟩)
  · obtain ⟨i_t', r_t_foremost', r_t_wagons', r_t_bears', r_t_strengths', r_t_worn', rfl, hr⟩ := hq
    obtain ⟨hr, M'⟩ := hr
    exact ⟨hr, d_t, i_t', j_t, r_t_tape, (eF σ), r_t_h, r_t_read, r_t_names, r_t_reserved, r_t_wagons', r_t_foremost', r_t_bears', r_t_strengths', r_t_worn', r_t_worst, r_t_places, r_t_bestPlaces, r_t_loadMay, r_t_loadAt, r_t_told, r_t_mostLoads, r_t_judgedAt, r_t_before, r_t_kept, r_t_namesKept, r_t_isKept, rfl, M'⟩

set_option maxRecDepth 100000 in
set_option maxHeartbeats 4000000 in
theorem N_bets (l : Launch) (D : va_G) (k : Nat → ClassId) {am : Nat} {σ : Nat → Int} {T : TS} {P : PS} {Z : ZT} {im : Nat → Option VT} {w : va_W} (V : ZOk σ T P Z im) (h : MS k am σ T P Z im w) {v1 : Int} (b1 : B31 v1) {v2 : Int} (b2 : B31 v2) {v3 : Int} (b3 : B31 v3) : CtI l yX12_bets cX12_bets 7 (some .int) 4 90 0 0 D k [.ref am, .int (eI v1), .int (eI v2), .int (eI v3)] w (fun r w' => r = eI (betsS σ v1 (eI v2) v3) ∧ MS k am σ T P Z im w') := by
  obtain ⟨d_t, i_t, j_t, r_t_tape, r_t_s, r_t_h, r_t_read, r_t_names, r_t_reserved, r_t_wagons, r_t_foremost, r_t_bears, r_t_strengths, r_t_worn, r_t_worst, r_t_places, r_t_bestPlaces, r_t_loadMay, r_t_loadAt, r_t_told, r_t_mostLoads, r_t_judgedAt, r_t_before, r_t_kept, r_t_namesKept, r_t_isKept, rfl, M⟩ := h
  have hs := M.s
  subst hs
  refine CtI.mono (cf_LongTrainModel_bets l D k am d_t i_t j_t r_t_tape (eF σ) r_t_h r_t_read r_t_names r_t_reserved r_t_wagons r_t_foremost r_t_bears r_t_strengths r_t_worn r_t_worst r_t_places r_t_bestPlaces r_t_loadMay r_t_loadAt r_t_told r_t_mostLoads r_t_judgedAt r_t_before r_t_kept r_t_namesKept r_t_isKept (eI v1) (eI v2) (eI v3) (fun r i_t' r_t_foremost' r_t_wagons' r_t_bears' r_t_strengths' r_t_worn' => r = eI (betsS σ v1 (eI v2) v3) ∧ MF σ T P Z im i_t' (eF σ) r_t_tape r_t_bestPlaces r_t_loadAt r_t_judgedAt r_t_reserved r_t_isKept r_t_kept) ?_) (fun r w1_ hq => ?_)
  · exact M_bets V.O b1 b3 (fun _ _ _ _ _ _ K => ⟨rfl, M.kp K⟩)
  · obtain ⟨i_t', r_t_foremost', r_t_wagons', r_t_bears', r_t_strengths', r_t_worn', rfl, hr⟩ := hq
    obtain ⟨hr, M'⟩ := hr
    exact ⟨hr, d_t, i_t', j_t, r_t_tape, (eF σ), r_t_h, r_t_read, r_t_names, r_t_reserved, r_t_wagons', r_t_foremost', r_t_bears', r_t_strengths', r_t_worn', r_t_worst, r_t_places, r_t_bestPlaces, r_t_loadMay, r_t_loadAt, r_t_told, r_t_mostLoads, r_t_judgedAt, r_t_before, r_t_kept, r_t_namesKept, r_t_isKept, rfl, M'⟩

set_option maxRecDepth 100000 in
set_option maxHeartbeats 4000000 in
theorem N_count (l : Launch) (D : va_G) (k : Nat → ClassId) {am : Nat} {σ : Nat → Int} {T : TS} {P : PS} {Z : ZT} {im : Nat → Option VT} {w : va_W} (V : ZOk σ T P Z im) (h : MS k am σ T P Z im w) {v1 : Int} (b1 : B31 v1) : CtI l yX12_count cX12_count 2 (some .int) 0 0 0 0 D k [.ref am, .int (eI v1)] w (fun r w' => r = cntS σ (eI Z.n) (eI v1) ∧ MS k am σ T P Z im w') := by
  obtain ⟨d_t, i_t, j_t, r_t_tape, r_t_s, r_t_h, r_t_read, r_t_names, r_t_reserved, r_t_wagons, r_t_foremost, r_t_bears, r_t_strengths, r_t_worn, r_t_worst, r_t_places, r_t_bestPlaces, r_t_loadMay, r_t_loadAt, r_t_told, r_t_mostLoads, r_t_judgedAt, r_t_before, r_t_kept, r_t_namesKept, r_t_isKept, rfl, M⟩ := h
  have hs := M.s
  subst hs
  refine CtI.mono (cf_LongTrainModel_count l D k am d_t i_t j_t r_t_tape (eF σ) r_t_h r_t_read r_t_names r_t_reserved r_t_wagons r_t_foremost r_t_bears r_t_strengths r_t_worn r_t_worst r_t_places r_t_bestPlaces r_t_loadMay r_t_loadAt r_t_told r_t_mostLoads r_t_judgedAt r_t_before r_t_kept r_t_namesKept r_t_isKept (eI v1) (fun r i_t' => r = cntS σ (eI Z.n) (eI v1) ∧ MF σ T P Z im i_t' (eF σ) r_t_tape r_t_bestPlaces r_t_loadAt r_t_judgedAt r_t_reserved r_t_isKept r_t_kept) ?_) (fun r w1_ hq => ?_)
  · exact M_count (fun _ K => ⟨by rw [M.n], M.kp K⟩)
  · obtain ⟨i_t', rfl, hr⟩ := hq
    obtain ⟨hr, M'⟩ := hr
    exact ⟨hr, d_t, i_t', j_t, r_t_tape, (eF σ), r_t_h, r_t_read, r_t_names, r_t_reserved, r_t_wagons, r_t_foremost, r_t_bears, r_t_strengths, r_t_worn, r_t_worst, r_t_places, r_t_bestPlaces, r_t_loadMay, r_t_loadAt, r_t_told, r_t_mostLoads, r_t_judgedAt, r_t_before, r_t_kept, r_t_namesKept, r_t_isKept, rfl, M'⟩

set_option maxRecDepth 100000 in
set_option maxHeartbeats 4000000 in
theorem N_feed (l : Launch) (D : va_G) (k : Nat → ClassId) {am : Nat} {σ : Nat → Int} {T : TS} {P : PS} {Z : ZT} {im : Nat → Option VT} {w : va_W} (V : ZOk σ T P Z im) (h : MS k am σ T P Z im w) {v1 : Int} (b1 : B31 v1) {v2 : Int} (b2 : B31 v2) {v3 : Int} (b3 : B31 v3) {v4 : Int} (b4 : B31 v4) {v5 : Int} (b5 : B31 v5) : CtI l yX12_feed cX12_feed 6 (some .int) 1 22 0 0 D k [.ref am, .int (eI v1), .int (eI v2), .int (eI v3), .int (eI v4), .int (eI v5)] w (fun r w' => r = fdA Z ∧ MS k am σ T P (fdZ Z (eI v1) (eI v2) (eI v3) (eI v4) (eI v5)) im w') := by
  obtain ⟨d_t, i_t, j_t, r_t_tape, r_t_s, r_t_h, r_t_read, r_t_names, r_t_reserved, r_t_wagons, r_t_foremost, r_t_bears, r_t_strengths, r_t_worn, r_t_worst, r_t_places, r_t_bestPlaces, r_t_loadMay, r_t_loadAt, r_t_told, r_t_mostLoads, r_t_judgedAt, r_t_before, r_t_kept, r_t_namesKept, r_t_isKept, rfl, M⟩ := h
  have hs := M.s
  subst hs
  refine CtI.mono (cf_LongTrainModel_feed l D k am d_t i_t j_t r_t_tape (eF σ) r_t_h r_t_read r_t_names r_t_reserved r_t_wagons r_t_foremost r_t_bears r_t_strengths r_t_worn r_t_worst r_t_places r_t_bestPlaces r_t_loadMay r_t_loadAt r_t_told r_t_mostLoads r_t_judgedAt r_t_before r_t_kept r_t_namesKept r_t_isKept (eI v1) (eI v2) (eI v3) (eI v4) (eI v5) (fun r i_t' r_t_tape' => r = fdA Z ∧ MF σ T P (fdZ Z (eI v1) (eI v2) (eI v3) (eI v4) (eI v5)) im i_t' (eF σ) r_t_tape' r_t_bestPlaces r_t_loadAt r_t_judgedAt r_t_reserved r_t_isKept r_t_kept) ?_) (fun r w1_ hq => ?_)
  · exact M_feed V.n M.n (fun h i2 K => ⟨by unfold fdA; rw [if_neg (by omega)], by unfold fdZ; rw [if_neg (by omega)]; exact M.kp K⟩) (fun h i2 K h2 => ⟨by unfold fdA; rw [if_pos h], by unfold fdZ; rw [if_pos h]; exact M.otp h2 (by rw [M.t]) ((K 15 (by omega)).trans M.f) (K 33 (by omega)) (K 38 (by omega)) (K 44 (by omega))⟩)
  · obtain ⟨i_t', r_t_tape', rfl, hr⟩ := hq
    obtain ⟨hr, M'⟩ := hr
    exact ⟨hr, d_t, i_t', j_t, r_t_tape', (eF σ), r_t_h, r_t_read, r_t_names, r_t_reserved, r_t_wagons, r_t_foremost, r_t_bears, r_t_strengths, r_t_worn, r_t_worst, r_t_places, r_t_bestPlaces, r_t_loadMay, r_t_loadAt, r_t_told, r_t_mostLoads, r_t_judgedAt, r_t_before, r_t_kept, r_t_namesKept, r_t_isKept, rfl, M'⟩

set_option maxRecDepth 100000 in
set_option maxHeartbeats 4000000 in
theorem N_end (l : Launch) (D : va_G) (k : Nat → ClassId) {am : Nat} {σ : Nat → Int} {T : TS} {P : PS} {Z : ZT} {im : Nat → Option VT} {w : va_W} (V : ZOk σ T P Z im) (h : MS k am σ T P Z im w) {v1 : Int} (b1 : B31 v1) : CtI l yX12_end cX12_end 2 (some .boolean) 0 0 0 0 D k [.ref am, .int (eI v1)] w (fun r w' => r = enA Z v1 ∧ MS k am σ T P (enZ Z v1) im w') := by
  obtain ⟨d_t, i_t, j_t, r_t_tape, r_t_s, r_t_h, r_t_read, r_t_names, r_t_reserved, r_t_wagons, r_t_foremost, r_t_bears, r_t_strengths, r_t_worn, r_t_worst, r_t_places, r_t_bestPlaces, r_t_loadMay, r_t_loadAt, r_t_told, r_t_mostLoads, r_t_judgedAt, r_t_before, r_t_kept, r_t_namesKept, r_t_isKept, rfl, M⟩ := h
  have hs := M.s
  subst hs
  refine CtI.mono (cf_LongTrainModel_end l D k am d_t i_t j_t r_t_tape (eF σ) r_t_h r_t_read r_t_names r_t_reserved r_t_wagons r_t_foremost r_t_bears r_t_strengths r_t_worn r_t_worst r_t_places r_t_bestPlaces r_t_loadMay r_t_loadAt r_t_told r_t_mostLoads r_t_judgedAt r_t_before r_t_kept r_t_namesKept r_t_isKept (eI v1) (fun r i_t' => r = enA Z v1 ∧ MF σ T P (enZ Z v1) im i_t' (eF σ) r_t_tape r_t_bestPlaces r_t_loadAt r_t_judgedAt r_t_reserved r_t_isKept r_t_kept) ?_) (fun r w1_ hq => ?_)
  · exact M_end V.n M.n b1 (fun h i2 K => ⟨by unfold enA; rw [if_neg h], by unfold enZ; rw [if_neg h]; exact M.kp K⟩) (fun h i2 K h2 => ⟨by unfold enA; rw [if_pos h], by unfold enZ; rw [if_pos h]; exact M.otp (by rw [h2]; congr 1; omega) M.t ((K 15 (by omega)).trans M.f) (K 33 (by omega)) (K 38 (by omega)) (K 44 (by omega))⟩)
  · obtain ⟨hz, i_t', rfl, hr⟩ := hq
    obtain ⟨hr, M'⟩ := hr
    exact ⟨hr, d_t, i_t', j_t, r_t_tape, (eF σ), r_t_h, r_t_read, r_t_names, r_t_reserved, r_t_wagons, r_t_foremost, r_t_bears, r_t_strengths, r_t_worn, r_t_worst, r_t_places, r_t_bestPlaces, r_t_loadMay, r_t_loadAt, r_t_told, r_t_mostLoads, r_t_judgedAt, r_t_before, r_t_kept, r_t_namesKept, r_t_isKept, rfl, M'⟩

set_option maxRecDepth 100000 in
set_option maxHeartbeats 4000000 in
theorem N_go (l : Launch) (D : va_G) (k : Nat → ClassId) {am : Nat} {σ : Nat → Int} {T : TS} {P : PS} {Z : ZT} {im : Nat → Option VT} {w : va_W} (V : ZOk σ T P Z im) (h : MS k am σ T P Z im w) {v1 : Int} (b1 : B31 v1) {v2 : Int} (b2 : B31 v2) : CtI l yX12_go cX12_go 3 (some .int) 5 114 0 0 D k [.ref am, .int (eI v1), .int (eI v2)] w (fun r w' => r = goA σ T v1 v2 ∧ ∃ σ1 : Nat → Int, Eqv σ σ1 ∧ MS k am σ1 (goT σ T v1 v2) P Z im w') := by
  obtain ⟨d_t, i_t, j_t, r_t_tape, r_t_s, r_t_h, r_t_read, r_t_names, r_t_reserved, r_t_wagons, r_t_foremost, r_t_bears, r_t_strengths, r_t_worn, r_t_worst, r_t_places, r_t_bestPlaces, r_t_loadMay, r_t_loadAt, r_t_told, r_t_mostLoads, r_t_judgedAt, r_t_before, r_t_kept, r_t_namesKept, r_t_isKept, rfl, M⟩ := h
  have hs := M.s
  subst hs
  refine CtI.mono (cf_LongTrainModel_go l D k am d_t i_t j_t r_t_tape (eF σ) r_t_h r_t_read r_t_names r_t_reserved r_t_wagons r_t_foremost r_t_bears r_t_strengths r_t_worn r_t_worst r_t_places r_t_bestPlaces r_t_loadMay r_t_loadAt r_t_told r_t_mostLoads r_t_judgedAt r_t_before r_t_kept r_t_namesKept r_t_isKept (eI v1) (eI v2) (fun r i_t' r_t_s' r_t_wagons' r_t_foremost' r_t_bears' => r = goA σ T v1 v2 ∧ ∃ σ1 : Nat → Int, Eqv σ σ1 ∧ MF  σ1 (goT σ T v1 v2) P Z im i_t' r_t_s' r_t_tape r_t_bestPlaces r_t_loadAt r_t_judgedAt r_t_reserved r_t_isKept r_t_kept) ?_) (fun r w1_ hq => ?_)
  · refine M_go V.O Eqv.rf M.R V.K b1 b2 (fun h _ _ _ _ K => ⟨by unfold goA; rw [if_neg h], σ, Eqv.rf, ?_⟩) (fun h i2 σ1 w2 f2 b2_ K e t R' => ⟨by unfold goA; rw [if_pos h], σ1, e, ?_⟩)
    · unfold goT; rw [if_neg h]; exact M.kp K
    · unfold goT; rw [if_pos h]
      have M2 := M.kp K
      exact ⟨rfl, R', M.RP.g (fun q hq _ => t q hq) V.PK, M2.n, M2.t, M2.f, M2.pm, M2.pp, M2.lm, M2.lp, M2.jh, M2.jt, M2.rv, M2.i0, M2.i1⟩
  · obtain ⟨i_t', r_t_s', r_t_wagons', r_t_foremost', r_t_bears', rfl, hr⟩ := hq
    have mk : ∀ {σ' : Nat → Int} {T' : TS} {P' : PS} {Z' : ZT} {im' : Nat → Option VT}, MF σ' T' P' Z' im' i_t' r_t_s' r_t_tape r_t_bestPlaces r_t_loadAt r_t_judgedAt r_t_reserved r_t_isKept r_t_kept → MS k am σ' T' P' Z' im' (wdF_LongTrainModel k am d_t i_t' j_t r_t_tape r_t_s' r_t_h r_t_read r_t_names r_t_reserved r_t_wagons' r_t_foremost' r_t_bears' r_t_strengths r_t_worn r_t_worst r_t_places r_t_bestPlaces r_t_loadMay r_t_loadAt r_t_told r_t_mostLoads r_t_judgedAt r_t_before r_t_kept r_t_namesKept r_t_isKept) := fun M' => ⟨d_t, i_t', j_t, r_t_tape, r_t_s', r_t_h, r_t_read, r_t_names, r_t_reserved, r_t_wagons', r_t_foremost', r_t_bears', r_t_strengths, r_t_worn, r_t_worst, r_t_places, r_t_bestPlaces, r_t_loadMay, r_t_loadAt, r_t_told, r_t_mostLoads, r_t_judgedAt, r_t_before, r_t_kept, r_t_namesKept, r_t_isKept, rfl, M'⟩
    obtain ⟨hr, σ1, e, M'⟩ := hr
    exact ⟨hr, σ1, e, mk M'⟩

set_option maxRecDepth 100000 in
set_option maxHeartbeats 4000000 in
theorem N_longest (l : Launch) (D : va_G) (k : Nat → ClassId) {am : Nat} {σ : Nat → Int} {T : TS} {P : PS} {Z : ZT} {im : Nat → Option VT} {w : va_W} (V : ZOk σ T P Z im) (h : MS k am σ T P Z im w) : CtI l yX12_longest cX12_longest 5 (some .int) 4 91 0 0 D k [.ref am] w (fun r w' => r = eI (lngS σ).1 ∧ MS k am σ T P (lgZ σ Z) im w') := by
  obtain ⟨d_t, i_t, j_t, r_t_tape, r_t_s, r_t_h, r_t_read, r_t_names, r_t_reserved, r_t_wagons, r_t_foremost, r_t_bears, r_t_strengths, r_t_worn, r_t_worst, r_t_places, r_t_bestPlaces, r_t_loadMay, r_t_loadAt, r_t_told, r_t_mostLoads, r_t_judgedAt, r_t_before, r_t_kept, r_t_namesKept, r_t_isKept, rfl, M⟩ := h
  have hs := M.s
  subst hs
  refine CtI.mono (cf_LongTrainModel_longest l D k am d_t i_t j_t r_t_tape (eF σ) r_t_h r_t_read r_t_names r_t_reserved r_t_wagons r_t_foremost r_t_bears r_t_strengths r_t_worn r_t_worst r_t_places r_t_bestPlaces r_t_loadMay r_t_loadAt r_t_told r_t_mostLoads r_t_judgedAt r_t_before r_t_kept r_t_namesKept r_t_isKept  (fun r i_t' r_t_places' r_t_wagons' r_t_strengths' r_t_worn' r_t_foremost' r_t_bears' r_t_bestPlaces' => r = eI (lngS σ).1 ∧ MF σ T P (lgZ σ Z) im i_t' (eF σ) r_t_tape r_t_bestPlaces' r_t_loadAt r_t_judgedAt r_t_reserved r_t_isKept r_t_kept) ?_) (fun r w1_ hq => ?_)
  · refine M_longest V.O (fun _ _ _ _ _ _ _ _ R' => ⟨rfl, ?_⟩)
    have hnn := lng_nn σ
    have hm4 := mn4_bd hnn
    refine ⟨rfl, M.R, M.RP, (R'.k 2 (by omega)).trans M.n, M.t, (R'.k 15 (by omega)).trans M.f, ?_, fun q hq => ?_, (R'.k 38 (by omega)).trans M.lm, M.lp, (R'.k 44 (by omega)).trans M.jh, M.jt, M.rv, M.i0, M.i1⟩
    · rw [R'.m hnn]
      show eI (mn4 (lngS σ).1) = eI (((mn4 (lngS σ).1).toNat : Nat) : Int)
      congr 1; omega
    · have hq' : q < (mn4 (lngS σ).1).toNat := hq
      exact R'.p hnn q (by omega)
  · obtain ⟨i_t', r_t_places', r_t_wagons', r_t_strengths', r_t_worn', r_t_foremost', r_t_bears', r_t_bestPlaces', rfl, hr⟩ := hq
    obtain ⟨hr, M'⟩ := hr
    exact ⟨hr, d_t, i_t', j_t, r_t_tape, (eF σ), r_t_h, r_t_read, r_t_names, r_t_reserved, r_t_wagons', r_t_foremost', r_t_bears', r_t_strengths', r_t_worn', r_t_worst, r_t_places', r_t_bestPlaces', r_t_loadMay, r_t_loadAt, r_t_told, r_t_mostLoads, r_t_judgedAt, r_t_before, r_t_kept, r_t_namesKept, r_t_isKept, rfl, M'⟩

set_option maxRecDepth 100000 in
set_option maxHeartbeats 4000000 in
theorem N_loads (l : Launch) (D : va_G) (k : Nat → ClassId) {am : Nat} {σ : Nat → Int} {T : TS} {P : PS} {Z : ZT} {im : Nat → Option VT} {w : va_W} (V : ZOk σ T P Z im) (h : MS k am σ T P Z im w) : CtI l yX12_loads cX12_loads 6 (some .int) 4 89 0 0 D k [.ref am] w (fun r w' => r = ldAn σ Z ∧ MS k am σ T P (ldZ σ Z) im w') := by
  obtain ⟨d_t, i_t, j_t, r_t_tape, r_t_s, r_t_h, r_t_read, r_t_names, r_t_reserved, r_t_wagons, r_t_foremost, r_t_bears, r_t_strengths, r_t_worn, r_t_worst, r_t_places, r_t_bestPlaces, r_t_loadMay, r_t_loadAt, r_t_told, r_t_mostLoads, r_t_judgedAt, r_t_before, r_t_kept, r_t_namesKept, r_t_isKept, rfl, M⟩ := h
  have hs := M.s
  subst hs
  refine CtI.mono (cf_LongTrainModel_loads l D k am d_t i_t j_t r_t_tape (eF σ) r_t_h r_t_read r_t_names r_t_reserved r_t_wagons r_t_foremost r_t_bears r_t_strengths r_t_worn r_t_worst r_t_places r_t_bestPlaces r_t_loadMay r_t_loadAt r_t_told r_t_mostLoads r_t_judgedAt r_t_before r_t_kept r_t_namesKept r_t_isKept  (fun r i_t' r_t_loadMay' r_t_mostLoads' r_t_wagons' r_t_foremost' r_t_bears' r_t_loadAt' => r = ldAn σ Z ∧ MF σ T P (ldZ σ Z) im i_t' (eF σ) r_t_tape r_t_bestPlaces r_t_loadAt' r_t_judgedAt r_t_reserved r_t_isKept r_t_kept) ?_) (fun r w1_ hq => ?_)
  · rw [M.t]
    refine M_loads V.O V.n M.n (fun h i2 _ _ _ _ _ K h2 => ⟨?_, ?_⟩) (fun h i2 _ _ _ _ _ la2 K h2 h38 hla => ⟨?_, ?_⟩)
    · unfold ldAn; rw [if_neg h]
    · unfold ldZ; rw [if_neg h]
      exact M.otp h2 rfl ((K 15 (by omega)).trans M.f) (K 33 (by omega)) (K 38 (by omega)) (K 44 (by omega))
    · unfold ldAn; rw [if_pos h]
    · unfold ldZ; rw [if_pos h]
      refine ⟨rfl, M.R, M.RP, h2, rfl, (K 15 (by omega)).trans M.f, (K 33 (by omega)).trans M.pm, M.pp, h38, fun q hq => ?_, (K 44 (by omega)).trans M.jh, M.jt, M.rv, M.i0, M.i1⟩
      have hq' : (q : Int) < (Z.n : Int) := hq
      exact hla q (by omega)
  · obtain ⟨i_t', r_t_loadMay', r_t_mostLoads', r_t_wagons', r_t_foremost', r_t_bears', r_t_loadAt', rfl, hr⟩ := hq
    obtain ⟨hr, M'⟩ := hr
    exact ⟨hr, d_t, i_t', j_t, r_t_tape, (eF σ), r_t_h, r_t_read, r_t_names, r_t_reserved, r_t_wagons', r_t_foremost', r_t_bears', r_t_strengths, r_t_worn, r_t_worst, r_t_places, r_t_bestPlaces, r_t_loadMay', r_t_loadAt', r_t_told, r_t_mostLoads', r_t_judgedAt, r_t_before, r_t_kept, r_t_namesKept, r_t_isKept, rfl, M'⟩

set_option maxRecDepth 100000 in
set_option maxHeartbeats 4000000 in
theorem N_judge (l : Launch) (D : va_G) (k : Nat → ClassId) {am : Nat} {σ : Nat → Int} {T : TS} {P : PS} {Z : ZT} {im : Nat → Option VT} {w : va_W} (V : ZOk σ T P Z im) (h : MS k am σ T P Z im w) {v1 : Int} (b1 : B31 v1) : CtI l yX12_judge cX12_judge 5 (some .int) 6 137 0 0 D k [.ref am, .int (eI v1)] w (fun r w' => r = jdA σ T P v1 ∧ ∃ σ1 : Nat → Int, Eqv σ σ1 ∧ MS k am σ1 (jdT σ T P v1) P (jdZ σ T P Z v1) im w') := by
  obtain ⟨d_t, i_t, j_t, r_t_tape, r_t_s, r_t_h, r_t_read, r_t_names, r_t_reserved, r_t_wagons, r_t_foremost, r_t_bears, r_t_strengths, r_t_worn, r_t_worst, r_t_places, r_t_bestPlaces, r_t_loadMay, r_t_loadAt, r_t_told, r_t_mostLoads, r_t_judgedAt, r_t_before, r_t_kept, r_t_namesKept, r_t_isKept, rfl, M⟩ := h
  have hs := M.s
  subst hs
  refine CtI.mono (cf_LongTrainModel_judge l D k am d_t i_t j_t r_t_tape (eF σ) r_t_h r_t_read r_t_names r_t_reserved r_t_wagons r_t_foremost r_t_bears r_t_strengths r_t_worn r_t_worst r_t_places r_t_bestPlaces r_t_loadMay r_t_loadAt r_t_told r_t_mostLoads r_t_judgedAt r_t_before r_t_kept r_t_namesKept r_t_isKept (eI v1) (fun r i_t' r_t_before' r_t_s' r_t_judgedAt' r_t_wagons' r_t_foremost' r_t_bears' => r = jdA σ T P v1 ∧ ∃ σ1 : Nat → Int, Eqv σ σ1 ∧ MF  σ1 (jdT σ T P v1) P (jdZ σ T P Z v1) im i_t' r_t_s' r_t_tape r_t_bestPlaces r_t_loadAt r_t_judgedAt' r_t_reserved r_t_isKept r_t_kept) ?_) (fun r w1_ hq => ?_)
  · refine M_judge V.O Eqv.rf M.R V.K M.RP V.PK b1 (fun h i2 K => ⟨by unfold jdA; rw [if_neg h], σ, Eqv.rf, ?_⟩) (fun h i2 bf2 σ1 j2 w2 f2 b2_ K h44 t0 t1 t2 t3 t4 t5 e RP' hA hB => ⟨by unfold jdA; rw [if_pos h], σ1, e, ?_⟩)
    · unfold jdT jdZ; rw [if_neg (by omega), if_neg h]; exact M.kp K
    · have R' : RT σ1 (jdT σ T P v1) := by
        unfold jdT
        by_cases h1 : v1 = 1
        · rw [if_pos h1]; exact hB h1
        · rw [if_neg h1]; exact RT.g V.O Eqv.rf (hA (by omega)) M.R V.K
      unfold jdZ; rw [if_pos h]
      exact ⟨rfl, R', RP', (K 2 (by omega)).trans M.n, M.t, (K 15 (by omega)).trans M.f, (K 33 (by omega)).trans M.pm, M.pp, (K 38 (by omega)).trans M.lm, M.lp, h44, fun _ => jdF_t t0 t1 t2 t3 t4 t5, M.rv, M.i0, M.i1⟩
  · obtain ⟨i_t', r_t_before', r_t_s', r_t_judgedAt', r_t_wagons', r_t_foremost', r_t_bears', rfl, hr⟩ := hq
    have mk : ∀ {σ' : Nat → Int} {T' : TS} {P' : PS} {Z' : ZT} {im' : Nat → Option VT}, MF σ' T' P' Z' im' i_t' r_t_s' r_t_tape r_t_bestPlaces r_t_loadAt r_t_judgedAt' r_t_reserved r_t_isKept r_t_kept → MS k am σ' T' P' Z' im' (wdF_LongTrainModel k am d_t i_t' j_t r_t_tape r_t_s' r_t_h r_t_read r_t_names r_t_reserved r_t_wagons' r_t_foremost' r_t_bears' r_t_strengths r_t_worn r_t_worst r_t_places r_t_bestPlaces r_t_loadMay r_t_loadAt r_t_told r_t_mostLoads r_t_judgedAt' r_t_before' r_t_kept r_t_namesKept r_t_isKept) := fun M' => ⟨d_t, i_t', j_t, r_t_tape, r_t_s', r_t_h, r_t_read, r_t_names, r_t_reserved, r_t_wagons', r_t_foremost', r_t_bears', r_t_strengths, r_t_worn, r_t_worst, r_t_places, r_t_bestPlaces, r_t_loadMay, r_t_loadAt, r_t_told, r_t_mostLoads, r_t_judgedAt', r_t_before', r_t_kept, r_t_namesKept, r_t_isKept, rfl, M'⟩
    obtain ⟨hr, σ1, e, M'⟩ := hr
    exact ⟨hr, σ1, e, mk M'⟩

set_option maxRecDepth 100000 in
set_option maxHeartbeats 4000000 in
theorem N_plan (l : Launch) (D : va_G) (k : Nat → ClassId) {am : Nat} {σ : Nat → Int} {T : TS} {P : PS} {Z : ZT} {im : Nat → Option VT} {w : va_W} (V : ZOk σ T P Z im) (h : MS k am σ T P Z im w) : CtI l yX12_plan cX12_plan 2 (some .int) 4 87 0 0 D k [.ref am] w (fun r w' => (∃ kk q : Nat, plS (eT Z 400) 31 0 0 z0f = flt kk q ∧ 1 ≤ kk ∧ r = -1 - eI (q : Int) ∧ MS k am σ T P (Z.tp 0 Z.tr (eI (kk : Int))) im w') ∨ (∃ (q : Nat) (f : Nat → Int) (σ1 : Nat → Int), plS (eT Z 400) 31 0 0 z0f = (0, q, f) ∧ r = eI (q : Int) ∧ POk (fP q f) ∧ Eqv σ σ1 ∧ MS k am σ1 T (fP q f) (Z.tp 0 Z.tr 0) im w')) := by
  obtain ⟨d_t, i_t, j_t, r_t_tape, r_t_s, r_t_h, r_t_read, r_t_names, r_t_reserved, r_t_wagons, r_t_foremost, r_t_bears, r_t_strengths, r_t_worn, r_t_worst, r_t_places, r_t_bestPlaces, r_t_loadMay, r_t_loadAt, r_t_told, r_t_mostLoads, r_t_judgedAt, r_t_before, r_t_kept, r_t_namesKept, r_t_isKept, rfl, M⟩ := h
  have hs := M.s
  subst hs
  refine CtI.mono (cf_LongTrainModel_plan l D k am d_t i_t j_t r_t_tape (eF σ) r_t_h r_t_read r_t_names r_t_reserved r_t_wagons r_t_foremost r_t_bears r_t_strengths r_t_worn r_t_worst r_t_places r_t_bestPlaces r_t_loadMay r_t_loadAt r_t_told r_t_mostLoads r_t_judgedAt r_t_before r_t_kept r_t_namesKept r_t_isKept  (fun r i_t' j_t' r_t_read' r_t_s' => (∃ kk q : Nat, plS (eT Z 400) 31 0 0 z0f = flt kk q ∧ 1 ≤ kk ∧ r = -1 - eI (q : Int) ∧ MF  σ T P (Z.tp 0 Z.tr (eI (kk : Int))) im i_t' r_t_s' r_t_tape r_t_bestPlaces r_t_loadAt r_t_judgedAt r_t_reserved r_t_isKept r_t_kept) ∨ (∃ (q : Nat) (f : Nat → Int) (σ1 : Nat → Int), plS (eT Z 400) 31 0 0 z0f = (0, q, f) ∧ r = eI (q : Int) ∧ POk (fP q f) ∧ Eqv σ σ1 ∧ MF  σ1 T (fP q f) (Z.tp 0 Z.tr 0) im i_t' r_t_s' r_t_tape r_t_bestPlaces r_t_loadAt r_t_judgedAt r_t_reserved r_t_isKept r_t_kept)) ?_) (fun r w1_ hq => ?_)
  · refine M_plan (eT_k V.n (by omega)) rfl (eT_r M.t) M.n (fun i2 j2 rd2 F K => ?_) (fun i2 j2 rd2 q f σ1 hE h15 K PK' RP' hs => ?_)
    · obtain ⟨kk, q, h1, h4, hq, hE, e15, e16⟩ := F
      obtain ⟨k2, k33, k38, k44⟩ := K
      exact Or.inl ⟨kk, q, hE, h1, by rw [e16], M.otp k2 M.t e15 k33 k38 k44⟩
    · obtain ⟨k2, k33, k38, k44⟩ := K
      refine Or.inr ⟨q, f, σ1, hE, rfl, PK', fun j hj => hs j (by omega), ?_⟩
      exact ⟨rfl, RT.p V.O Eqv.rf hs M.R V.K, RP', k2, M.t, h15, k33.trans M.pm, M.pp, k38.trans M.lm, M.lp, k44.trans M.jh, M.jt, M.rv, M.i0, M.i1⟩
  · obtain ⟨i_t', j_t', r_t_read', r_t_s', rfl, hr⟩ := hq
    have mk : ∀ {σ' : Nat → Int} {T' : TS} {P' : PS} {Z' : ZT} {im' : Nat → Option VT}, MF σ' T' P' Z' im' i_t' r_t_s' r_t_tape r_t_bestPlaces r_t_loadAt r_t_judgedAt r_t_reserved r_t_isKept r_t_kept → MS k am σ' T' P' Z' im' (wdF_LongTrainModel k am d_t i_t' j_t' r_t_tape r_t_s' r_t_h r_t_read' r_t_names r_t_reserved r_t_wagons r_t_foremost r_t_bears r_t_strengths r_t_worn r_t_worst r_t_places r_t_bestPlaces r_t_loadMay r_t_loadAt r_t_told r_t_mostLoads r_t_judgedAt r_t_before r_t_kept r_t_namesKept r_t_isKept) := fun M' => ⟨d_t, i_t', j_t', r_t_tape, r_t_s', r_t_h, r_t_read', r_t_names, r_t_reserved, r_t_wagons, r_t_foremost, r_t_bears, r_t_strengths, r_t_worn, r_t_worst, r_t_places, r_t_bestPlaces, r_t_loadMay, r_t_loadAt, r_t_told, r_t_mostLoads, r_t_judgedAt, r_t_before, r_t_kept, r_t_namesKept, r_t_isKept, rfl, M'⟩
    rcases hr with ⟨kk, q, h1, h2, h3, M'⟩ | ⟨q, f, σ1, h1, h2, h3, h4, M'⟩
    · exact Or.inl ⟨kk, q, h1, h2, h3, mk M'⟩
    · exact Or.inr ⟨q, f, σ1, h1, h2, h3, h4, mk M'⟩

set_option maxRecDepth 100000 in
set_option maxHeartbeats 4000000 in
theorem N_line (l : Launch) (D : va_G) (k : Nat → ClassId) {am : Nat} {σ : Nat → Int} {T : TS} {P : PS} {Z : ZT} {im : Nat → Option VT} {w : va_W} (V : ZOk σ T P Z im) (h : MS k am σ T P Z im w) : ∃ zz : Nat → Int, CtI l yX12_line cX12_line 2 (some .int) 5 110 0 0 D k [.ref am] w (fun r w' => (∃ kk q : Nat, lnS (eT Z 900) 941 0 0 (S0 zz) = flt kk q ∧ 1 ≤ kk ∧ r = -1 - eI (q : Int) ∧ MS k am σ T P (Z.tp 0 Z.tr (eI (kk : Int))) im w') ∨ (∃ (q : Nat) (h : Nat → Int), lnS (eT Z 900) 941 0 0 (S0 zz) = (0, q, h) ∧ LOk h ∧ r = eI (q : Int) ∧ MS k am (lnF h σ) (T0 h) (fP 0 z0f) (Z.tp 0 Z.tr 0) im w')) := by
  obtain ⟨d_t, i_t, j_t, r_t_tape, r_t_s, r_t_h, r_t_read, r_t_names, r_t_reserved, r_t_wagons, r_t_foremost, r_t_bears, r_t_strengths, r_t_worn, r_t_worst, r_t_places, r_t_bestPlaces, r_t_loadMay, r_t_loadAt, r_t_told, r_t_mostLoads, r_t_judgedAt, r_t_before, r_t_kept, r_t_namesKept, r_t_isKept, rfl, M⟩ := h
  have hs := M.s
  subst hs
  refine ⟨fun q => (r_t_h q).toInt, ?_⟩
  refine CtI.mono (cf_LongTrainModel_line l D k am d_t i_t j_t r_t_tape (eF σ) r_t_h r_t_read r_t_names r_t_reserved r_t_wagons r_t_foremost r_t_bears r_t_strengths r_t_worn r_t_worst r_t_places r_t_bestPlaces r_t_loadMay r_t_loadAt r_t_told r_t_mostLoads r_t_judgedAt r_t_before r_t_kept r_t_namesKept r_t_isKept  (fun r i_t' j_t' r_t_h' r_t_names' r_t_s' => (∃ kk q : Nat, lnS (eT Z 900) 941 0 0 (S0 (fun q => (r_t_h q).toInt)) = flt kk q ∧ 1 ≤ kk ∧ r = -1 - eI (q : Int) ∧ MF  σ T P (Z.tp 0 Z.tr (eI (kk : Int))) im i_t' r_t_s' r_t_tape r_t_bestPlaces r_t_loadAt r_t_judgedAt r_t_reserved r_t_isKept r_t_kept) ∨ (∃ (q : Nat) (h : Nat → Int), lnS (eT Z 900) 941 0 0 (S0 (fun q => (r_t_h q).toInt)) = (0, q, h) ∧ LOk h ∧ r = eI (q : Int) ∧ MF  (lnF h σ) (T0 h) (fP 0 z0f) (Z.tp 0 Z.tr 0) im i_t' r_t_s' r_t_tape r_t_bestPlaces r_t_loadAt r_t_judgedAt r_t_reserved r_t_isKept r_t_kept)) ?_) (fun r w1_ hq => ?_)
  · refine M_line (eT_k V.n (by omega)) rfl rfl (eT_r M.t) M.rv M.n (fun i2 j2 h2 nm2 F K => ?_) (fun i2 j2 h2 nm2 q S hE L hq h15 K => ?_)
    · obtain ⟨kk, q, h1, h4, hq, hE, e15, e16⟩ := F
      obtain ⟨k2, k33, k38, k44⟩ := K
      exact Or.inl ⟨kk, q, hE, h1, by rw [e16], M.otp k2 M.t e15 k33 k38 k44⟩
    · obtain ⟨k2, k33, k38, k44⟩ := K
      refine Or.inr ⟨q, S.h, hE, L.o, rfl, ?_⟩
      exact ⟨rfl, T0_RT L.o, P0_RP L.o, k2, M.t, h15, k33.trans M.pm, M.pp, k38.trans M.lm, M.lp, k44.trans M.jh, M.jt, M.rv, M.i0, M.i1⟩
  · obtain ⟨i_t', j_t', r_t_h', r_t_names', r_t_s', rfl, hr⟩ := hq
    have mk : ∀ {σ' : Nat → Int} {T' : TS} {P' : PS} {Z' : ZT} {im' : Nat → Option VT}, MF σ' T' P' Z' im' i_t' r_t_s' r_t_tape r_t_bestPlaces r_t_loadAt r_t_judgedAt r_t_reserved r_t_isKept r_t_kept → MS k am σ' T' P' Z' im' (wdF_LongTrainModel k am d_t i_t' j_t' r_t_tape r_t_s' r_t_h' r_t_read r_t_names' r_t_reserved r_t_wagons r_t_foremost r_t_bears r_t_strengths r_t_worn r_t_worst r_t_places r_t_bestPlaces r_t_loadMay r_t_loadAt r_t_told r_t_mostLoads r_t_judgedAt r_t_before r_t_kept r_t_namesKept r_t_isKept) := fun M' => ⟨d_t, i_t', j_t', r_t_tape, r_t_s', r_t_h', r_t_read, r_t_names', r_t_reserved, r_t_wagons, r_t_foremost, r_t_bears, r_t_strengths, r_t_worn, r_t_worst, r_t_places, r_t_bestPlaces, r_t_loadMay, r_t_loadAt, r_t_told, r_t_mostLoads, r_t_judgedAt, r_t_before, r_t_kept, r_t_namesKept, r_t_isKept, rfl, M'⟩
    rcases hr with ⟨kk, q, h1, h2, h3, M'⟩ | ⟨q, h, h1, h2, h3, M'⟩
    · exact Or.inl ⟨kk, q, h1, h2, h3, mk M'⟩
    · exact Or.inr ⟨q, h, h1, h2, h3, mk M'⟩

/-! what throws: none -/
noncomputable def tgA (σ : Nat → Int) (u : Int) : Option Int32 := if -999 ≤ u ∧ u < σ 0 then some (eI (GR σ u)) else none
noncomputable def thA (σ : Nat → Int) (k w : Int) : Option Int32 := if (0 ≤ k ∧ k < σ 1) ∧ 0 ≤ w ∧ w ≤ 2 then some (eI (haltS σ k w)) else none
noncomputable def tkA (σ : Nat → Int) (k w : Int) : Option Int32 := if (0 ≤ k ∧ k < σ 3) ∧ 0 ≤ w ∧ w ≤ 2 then some (eI (σ (457 + 3 * k + w).toNat)) else none
noncomputable def twA (σ : Nat → Int) (T : TS) (x v : Int) : Option Int32 := if (0 ≤ x ∧ x < T.n) ∧ 0 ≤ v ∧ v ≤ 4 then some (eI (wagS σ T x.toNat v)) else none
noncomputable def tfA (σ : Nat → Int) (T : TS) (x v : Int) : Option Int32 := if (0 ≤ x ∧ x < T.v) ∧ 0 ≤ v ∧ v ≤ 4 then some (eI (halfS σ T x.toNat v)) else none
noncomputable def tsA (σ : Nat → Int) (sg : Int) (x y v : Int) : Option Int32 := if 0 ≤ v ∧ v ≤ 2 then some (eI (strS σ sg x y v)) else none
def MSt (k : Nat → ClassId) (am : Nat) (σ : Nat → Int) (T : TS) (P : PS) (Z : ZT) (im : Nat → Option VT) (th : Int32) (w : va_W) : Prop := ∃ (d_t : Nat → Nat), ∃ (i_t : Nat → Int32), ∃ (j_t : Nat → Int64), ∃ (r_t_tape : Nat → Int32), ∃ (r_t_s : Nat → Int32), ∃ (r_t_h : Nat → Int32), ∃ (r_t_read : Nat → Int32), ∃ (r_t_names : Nat → Int64), ∃ (r_t_reserved : Nat → Int64), ∃ (r_t_wagons : Nat → Int32), ∃ (r_t_foremost : Nat → Int32), ∃ (r_t_bears : Nat → Int32), ∃ (r_t_strengths : Nat → Int32), ∃ (r_t_worn : Nat → Int32), ∃ (r_t_worst : Nat → Int32), ∃ (r_t_places : Nat → Int32), ∃ (r_t_bestPlaces : Nat → Int32), ∃ (r_t_loadMay : Nat → Int32), ∃ (r_t_loadAt : Nat → Int32), ∃ (r_t_told : Nat → Int32), ∃ (r_t_mostLoads : Nat → Int32), ∃ (r_t_judgedAt : Nat → Int32), ∃ (r_t_before : Nat → Int32), ∃ (r_t_kept : Nat → Int32), ∃ (r_t_namesKept : Nat → Int64), ∃ (r_t_isKept : Nat → Int32), w = wdF_LongTrainModel k am d_t i_t j_t r_t_tape r_t_s r_t_h r_t_read r_t_names r_t_reserved r_t_wagons r_t_foremost r_t_bears r_t_strengths r_t_worn r_t_worst r_t_places r_t_bestPlaces r_t_loadMay r_t_loadAt r_t_told r_t_mostLoads r_t_judgedAt r_t_before r_t_kept r_t_namesKept r_t_isKept ∧ MF σ T P Z im i_t r_t_s r_t_tape r_t_bestPlaces r_t_loadAt r_t_judgedAt r_t_reserved r_t_isKept r_t_kept ∧ i_t 0 = th
set_option maxRecDepth 100000 in
set_option maxHeartbeats 4000000 in
theorem N_thrown (l : Launch) (D : va_G) (k : Nat → ClassId) {am : Nat} {σ : Nat → Int} {T : TS} {P : PS} {Z : ZT} {im : Nat → Option VT} {th : Int32} {w : va_W} (h : MSt k am σ T P Z im th w) : CtI l yX12_thrown cX12_thrown 1 (some .int) 0 0 0 0 D k [.ref am] w (fun r w' => r = th ∧ MS k am σ T P Z im w') := by
  obtain ⟨d_t, i_t, j_t, r_t_tape, r_t_s, r_t_h, r_t_read, r_t_names, r_t_reserved, r_t_wagons, r_t_foremost, r_t_bears, r_t_strengths, r_t_worn, r_t_worst, r_t_places, r_t_bestPlaces, r_t_loadMay, r_t_loadAt, r_t_told, r_t_mostLoads, r_t_judgedAt, r_t_before, r_t_kept, r_t_namesKept, r_t_isKept, rfl, M, ht⟩ := h
  refine CtI.mono (cf_LongTrainModel_thrown l D k am d_t i_t j_t r_t_tape r_t_s r_t_h r_t_read r_t_names r_t_reserved r_t_wagons r_t_foremost r_t_bears r_t_strengths r_t_worn r_t_worst r_t_places r_t_bestPlaces r_t_loadMay r_t_loadAt r_t_told r_t_mostLoads r_t_judgedAt r_t_before r_t_kept r_t_namesKept r_t_isKept (fun r => r = th) ?_) (fun r w1_ hq => ?_)
  · unfold w_LongTrainModel_thrown
    exact ht
  · obtain ⟨rfl, hr⟩ := hq
    exact ⟨hr, d_t, i_t, j_t, r_t_tape, r_t_s, r_t_h, r_t_read, r_t_names, r_t_reserved, r_t_wagons, r_t_foremost, r_t_bears, r_t_strengths, r_t_worn, r_t_worst, r_t_places, r_t_bestPlaces, r_t_loadMay, r_t_loadAt, r_t_told, r_t_mostLoads, r_t_judgedAt, r_t_before, r_t_kept, r_t_namesKept, r_t_isKept, rfl, M⟩

set_option maxRecDepth 100000 in
set_option maxHeartbeats 4000000 in
theorem N_grade (l : Launch) (D : va_G) (k : Nat → ClassId) {am : Nat} {σ : Nat → Int} {T : TS} {P : PS} {Z : ZT} {im : Nat → Option VT} {w : va_W} (V : ZOk σ T P Z im) (h : MS k am σ T P Z im w) {v1 : Int} (b1 : B31 v1) : CtI l yX12_grade cX12_grade 2 (some .int) 1 22 0 0 D k [.ref am, .int (eI v1)] w (fun r w' => (∃ z, tgA σ v1 = some z ∧ r = z ∧ MSt k am σ T P Z im 0 w') ∨ (tgA σ v1 = none ∧ MSt k am σ T P Z im 1 w')) := by
  obtain ⟨d_t, i_t, j_t, r_t_tape, r_t_s, r_t_h, r_t_read, r_t_names, r_t_reserved, r_t_wagons, r_t_foremost, r_t_bears, r_t_strengths, r_t_worn, r_t_worst, r_t_places, r_t_bestPlaces, r_t_loadMay, r_t_loadAt, r_t_told, r_t_mostLoads, r_t_judgedAt, r_t_before, r_t_kept, r_t_namesKept, r_t_isKept, rfl, M⟩ := h
  have hs := M.s
  subst hs
  refine CtI.mono (cf_LongTrainModel_grade l D k am d_t i_t j_t r_t_tape (eF σ) r_t_h r_t_read r_t_names r_t_reserved r_t_wagons r_t_foremost r_t_bears r_t_strengths r_t_worn r_t_worst r_t_places r_t_bestPlaces r_t_loadMay r_t_loadAt r_t_told r_t_mostLoads r_t_judgedAt r_t_before r_t_kept r_t_namesKept r_t_isKept (eI v1) (fun r i_t' => (∃ z, tgA σ v1 = some z ∧ r = z ∧ MF σ T P Z im i_t' (eF σ) r_t_tape r_t_bestPlaces r_t_loadAt r_t_judgedAt r_t_reserved r_t_isKept r_t_kept ∧ i_t' 0 = 0) ∨ (tgA σ v1 = none ∧ MF σ T P Z im i_t' (eF σ) r_t_tape r_t_bestPlaces r_t_loadAt r_t_judgedAt r_t_reserved r_t_isKept r_t_kept ∧ i_t' 0 = 1)) ?_) (fun r w1_ hq => ?_)
  · exact M_grade V.O b1 (fun h z _ K h0 => Or.inr ⟨by unfold tgA; rw [if_neg h], M.kp K, h0⟩) (fun h _ K h0 => Or.inl ⟨_, by unfold tgA; rw [if_pos h], rfl, M.kp K, h0⟩)
  · obtain ⟨i_t', rfl, hr⟩ := hq
    rcases hr with ⟨z, h1, h2, M', h3⟩ | ⟨h1, M', h3⟩
    · exact Or.inl ⟨z, h1, h2, d_t, i_t', j_t, r_t_tape, (eF σ), r_t_h, r_t_read, r_t_names, r_t_reserved, r_t_wagons, r_t_foremost, r_t_bears, r_t_strengths, r_t_worn, r_t_worst, r_t_places, r_t_bestPlaces, r_t_loadMay, r_t_loadAt, r_t_told, r_t_mostLoads, r_t_judgedAt, r_t_before, r_t_kept, r_t_namesKept, r_t_isKept, rfl, M', h3⟩
    · exact Or.inr ⟨h1, d_t, i_t', j_t, r_t_tape, (eF σ), r_t_h, r_t_read, r_t_names, r_t_reserved, r_t_wagons, r_t_foremost, r_t_bears, r_t_strengths, r_t_worn, r_t_worst, r_t_places, r_t_bestPlaces, r_t_loadMay, r_t_loadAt, r_t_told, r_t_mostLoads, r_t_judgedAt, r_t_before, r_t_kept, r_t_namesKept, r_t_isKept, rfl, M', h3⟩

set_option maxRecDepth 100000 in
set_option maxHeartbeats 4000000 in
theorem N_halt (l : Launch) (D : va_G) (k : Nat → ClassId) {am : Nat} {σ : Nat → Int} {T : TS} {P : PS} {Z : ZT} {im : Nat → Option VT} {w : va_W} (V : ZOk σ T P Z im) (h : MS k am σ T P Z im w) {v1 : Int} (b1 : B31 v1) {v2 : Int} (b2 : B31 v2) : CtI l yX12_halt cX12_halt 3 (some .int) 2 43 0 0 D k [.ref am, .int (eI v1), .int (eI v2)] w (fun r w' => (∃ z, thA σ v1 v2 = some z ∧ r = z ∧ MSt k am σ T P Z im 0 w') ∨ (thA σ v1 v2 = none ∧ MSt k am σ T P Z im 1 w')) := by
  obtain ⟨d_t, i_t, j_t, r_t_tape, r_t_s, r_t_h, r_t_read, r_t_names, r_t_reserved, r_t_wagons, r_t_foremost, r_t_bears, r_t_strengths, r_t_worn, r_t_worst, r_t_places, r_t_bestPlaces, r_t_loadMay, r_t_loadAt, r_t_told, r_t_mostLoads, r_t_judgedAt, r_t_before, r_t_kept, r_t_namesKept, r_t_isKept, rfl, M⟩ := h
  have hs := M.s
  subst hs
  refine CtI.mono (cf_LongTrainModel_halt l D k am d_t i_t j_t r_t_tape (eF σ) r_t_h r_t_read r_t_names r_t_reserved r_t_wagons r_t_foremost r_t_bears r_t_strengths r_t_worn r_t_worst r_t_places r_t_bestPlaces r_t_loadMay r_t_loadAt r_t_told r_t_mostLoads r_t_judgedAt r_t_before r_t_kept r_t_namesKept r_t_isKept (eI v1) (eI v2) (fun r i_t' => (∃ z, thA σ v1 v2 = some z ∧ r = z ∧ MF σ T P Z im i_t' (eF σ) r_t_tape r_t_bestPlaces r_t_loadAt r_t_judgedAt r_t_reserved r_t_isKept r_t_kept ∧ i_t' 0 = 0) ∨ (thA σ v1 v2 = none ∧ MF σ T P Z im i_t' (eF σ) r_t_tape r_t_bestPlaces r_t_loadAt r_t_judgedAt r_t_reserved r_t_isKept r_t_kept ∧ i_t' 0 = 1)) ?_) (fun r w1_ hq => ?_)
  · exact M_halt V.O b1 b2 (fun h z _ K h0 => Or.inr ⟨by unfold thA; rw [if_neg h], M.kp K, h0⟩) (fun h _ K h0 => Or.inl ⟨_, by unfold thA; rw [if_pos h], rfl, M.kp K, h0⟩)
  · obtain ⟨i_t', rfl, hr⟩ := hq
    rcases hr with ⟨z, h1, h2, M', h3⟩ | ⟨h1, M', h3⟩
    · exact Or.inl ⟨z, h1, h2, d_t, i_t', j_t, r_t_tape, (eF σ), r_t_h, r_t_read, r_t_names, r_t_reserved, r_t_wagons, r_t_foremost, r_t_bears, r_t_strengths, r_t_worn, r_t_worst, r_t_places, r_t_bestPlaces, r_t_loadMay, r_t_loadAt, r_t_told, r_t_mostLoads, r_t_judgedAt, r_t_before, r_t_kept, r_t_namesKept, r_t_isKept, rfl, M', h3⟩
    · exact Or.inr ⟨h1, d_t, i_t', j_t, r_t_tape, (eF σ), r_t_h, r_t_read, r_t_names, r_t_reserved, r_t_wagons, r_t_foremost, r_t_bears, r_t_strengths, r_t_worn, r_t_worst, r_t_places, r_t_bestPlaces, r_t_loadMay, r_t_loadAt, r_t_told, r_t_mostLoads, r_t_judgedAt, r_t_before, r_t_kept, r_t_namesKept, r_t_isKept, rfl, M', h3⟩

set_option maxRecDepth 100000 in
set_option maxHeartbeats 4000000 in
theorem N_kind (l : Launch) (D : va_G) (k : Nat → ClassId) {am : Nat} {σ : Nat → Int} {T : TS} {P : PS} {Z : ZT} {im : Nat → Option VT} {w : va_W} (V : ZOk σ T P Z im) (h : MS k am σ T P Z im w) {v1 : Int} (b1 : B31 v1) {v2 : Int} (b2 : B31 v2) : CtI l yX12_kind cX12_kind 3 (some .int) 2 43 0 0 D k [.ref am, .int (eI v1), .int (eI v2)] w (fun r w' => (∃ z, tkA σ v1 v2 = some z ∧ r = z ∧ MSt k am σ T P Z im 0 w') ∨ (tkA σ v1 v2 = none ∧ MSt k am σ T P Z im 1 w')) := by
  obtain ⟨d_t, i_t, j_t, r_t_tape, r_t_s, r_t_h, r_t_read, r_t_names, r_t_reserved, r_t_wagons, r_t_foremost, r_t_bears, r_t_strengths, r_t_worn, r_t_worst, r_t_places, r_t_bestPlaces, r_t_loadMay, r_t_loadAt, r_t_told, r_t_mostLoads, r_t_judgedAt, r_t_before, r_t_kept, r_t_namesKept, r_t_isKept, rfl, M⟩ := h
  have hs := M.s
  subst hs
  refine CtI.mono (cf_LongTrainModel_kind l D k am d_t i_t j_t r_t_tape (eF σ) r_t_h r_t_read r_t_names r_t_reserved r_t_wagons r_t_foremost r_t_bears r_t_strengths r_t_worn r_t_worst r_t_places r_t_bestPlaces r_t_loadMay r_t_loadAt r_t_told r_t_mostLoads r_t_judgedAt r_t_before r_t_kept r_t_namesKept r_t_isKept (eI v1) (eI v2) (fun r i_t' => (∃ z, tkA σ v1 v2 = some z ∧ r = z ∧ MF σ T P Z im i_t' (eF σ) r_t_tape r_t_bestPlaces r_t_loadAt r_t_judgedAt r_t_reserved r_t_isKept r_t_kept ∧ i_t' 0 = 0) ∨ (tkA σ v1 v2 = none ∧ MF σ T P Z im i_t' (eF σ) r_t_tape r_t_bestPlaces r_t_loadAt r_t_judgedAt r_t_reserved r_t_isKept r_t_kept ∧ i_t' 0 = 1)) ?_) (fun r w1_ hq => ?_)
  · exact M_kind V.O b1 b2 (fun h z _ K h0 => Or.inr ⟨by unfold tkA; rw [if_neg h], M.kp K, h0⟩) (fun h _ K h0 => Or.inl ⟨_, by unfold tkA; rw [if_pos h], rfl, M.kp K, h0⟩)
  · obtain ⟨i_t', rfl, hr⟩ := hq
    rcases hr with ⟨z, h1, h2, M', h3⟩ | ⟨h1, M', h3⟩
    · exact Or.inl ⟨z, h1, h2, d_t, i_t', j_t, r_t_tape, (eF σ), r_t_h, r_t_read, r_t_names, r_t_reserved, r_t_wagons, r_t_foremost, r_t_bears, r_t_strengths, r_t_worn, r_t_worst, r_t_places, r_t_bestPlaces, r_t_loadMay, r_t_loadAt, r_t_told, r_t_mostLoads, r_t_judgedAt, r_t_before, r_t_kept, r_t_namesKept, r_t_isKept, rfl, M', h3⟩
    · exact Or.inr ⟨h1, d_t, i_t', j_t, r_t_tape, (eF σ), r_t_h, r_t_read, r_t_names, r_t_reserved, r_t_wagons, r_t_foremost, r_t_bears, r_t_strengths, r_t_worn, r_t_worst, r_t_places, r_t_bestPlaces, r_t_loadMay, r_t_loadAt, r_t_told, r_t_mostLoads, r_t_judgedAt, r_t_before, r_t_kept, r_t_namesKept, r_t_isKept, rfl, M', h3⟩

set_option maxRecDepth 100000 in
set_option maxHeartbeats 4000000 in
theorem N_wagon (l : Launch) (D : va_G) (k : Nat → ClassId) {am : Nat} {σ : Nat → Int} {T : TS} {P : PS} {Z : ZT} {im : Nat → Option VT} {w : va_W} (V : ZOk σ T P Z im) (h : MS k am σ T P Z im w) {v1 : Int} (b1 : B31 v1) {v2 : Int} (b2 : B31 v2) : CtI l yX12_wagon cX12_wagon 3 (some .int) 3 67 0 0 D k [.ref am, .int (eI v1), .int (eI v2)] w (fun r w' => (∃ z, twA σ T v1 v2 = some z ∧ r = z ∧ MSt k am σ T P Z im 0 w') ∨ (twA σ T v1 v2 = none ∧ MSt k am σ T P Z im 1 w')) := by
  obtain ⟨d_t, i_t, j_t, r_t_tape, r_t_s, r_t_h, r_t_read, r_t_names, r_t_reserved, r_t_wagons, r_t_foremost, r_t_bears, r_t_strengths, r_t_worn, r_t_worst, r_t_places, r_t_bestPlaces, r_t_loadMay, r_t_loadAt, r_t_told, r_t_mostLoads, r_t_judgedAt, r_t_before, r_t_kept, r_t_namesKept, r_t_isKept, rfl, M⟩ := h
  have hs := M.s
  subst hs
  refine CtI.mono (cf_LongTrainModel_wagon l D k am d_t i_t j_t r_t_tape (eF σ) r_t_h r_t_read r_t_names r_t_reserved r_t_wagons r_t_foremost r_t_bears r_t_strengths r_t_worn r_t_worst r_t_places r_t_bestPlaces r_t_loadMay r_t_loadAt r_t_told r_t_mostLoads r_t_judgedAt r_t_before r_t_kept r_t_namesKept r_t_isKept (eI v1) (eI v2) (fun r i_t' r_t_wagons' r_t_foremost' r_t_bears' => (∃ z, twA σ T v1 v2 = some z ∧ r = z ∧ MF σ T P Z im i_t' (eF σ) r_t_tape r_t_bestPlaces r_t_loadAt r_t_judgedAt r_t_reserved r_t_isKept r_t_kept ∧ i_t' 0 = 0) ∨ (twA σ T v1 v2 = none ∧ MF σ T P Z im i_t' (eF σ) r_t_tape r_t_bestPlaces r_t_loadAt r_t_judgedAt r_t_reserved r_t_isKept r_t_kept ∧ i_t' 0 = 1)) ?_) (fun r w1_ hq => ?_)
  · exact M_wagon V.O Eqv.rf M.R V.K b1 b2 (fun h z _ _ _ _ K h0 => Or.inr ⟨by unfold twA; rw [if_neg h], M.kp K, h0⟩) (fun h _ _ _ _ K h0 => Or.inl ⟨_, by unfold twA; rw [if_pos h], rfl, M.kp K, h0⟩)
  · obtain ⟨i_t', r_t_wagons', r_t_foremost', r_t_bears', rfl, hr⟩ := hq
    rcases hr with ⟨z, h1, h2, M', h3⟩ | ⟨h1, M', h3⟩
    · exact Or.inl ⟨z, h1, h2, d_t, i_t', j_t, r_t_tape, (eF σ), r_t_h, r_t_read, r_t_names, r_t_reserved, r_t_wagons', r_t_foremost', r_t_bears', r_t_strengths, r_t_worn, r_t_worst, r_t_places, r_t_bestPlaces, r_t_loadMay, r_t_loadAt, r_t_told, r_t_mostLoads, r_t_judgedAt, r_t_before, r_t_kept, r_t_namesKept, r_t_isKept, rfl, M', h3⟩
    · exact Or.inr ⟨h1, d_t, i_t', j_t, r_t_tape, (eF σ), r_t_h, r_t_read, r_t_names, r_t_reserved, r_t_wagons', r_t_foremost', r_t_bears', r_t_strengths, r_t_worn, r_t_worst, r_t_places, r_t_bestPlaces, r_t_loadMay, r_t_loadAt, r_t_told, r_t_mostLoads, r_t_judgedAt, r_t_before, r_t_kept, r_t_namesKept, r_t_isKept, rfl, M', h3⟩

set_option maxRecDepth 100000 in
set_option maxHeartbeats 4000000 in
theorem N_half (l : Launch) (D : va_G) (k : Nat → ClassId) {am : Nat} {σ : Nat → Int} {T : TS} {P : PS} {Z : ZT} {im : Nat → Option VT} {w : va_W} (V : ZOk σ T P Z im) (h : MS k am σ T P Z im w) {v1 : Int} (b1 : B31 v1) {v2 : Int} (b2 : B31 v2) : CtI l yX12_half cX12_half 7 (some .int) 2 45 0 0 D k [.ref am, .int (eI v1), .int (eI v2)] w (fun r w' => (∃ z, tfA σ T v1 v2 = some z ∧ r = z ∧ MSt k am σ T P Z im 0 w') ∨ (tfA σ T v1 v2 = none ∧ MSt k am σ T P Z im 1 w')) := by
  obtain ⟨d_t, i_t, j_t, r_t_tape, r_t_s, r_t_h, r_t_read, r_t_names, r_t_reserved, r_t_wagons, r_t_foremost, r_t_bears, r_t_strengths, r_t_worn, r_t_worst, r_t_places, r_t_bestPlaces, r_t_loadMay, r_t_loadAt, r_t_told, r_t_mostLoads, r_t_judgedAt, r_t_before, r_t_kept, r_t_namesKept, r_t_isKept, rfl, M⟩ := h
  have hs := M.s
  subst hs
  refine CtI.mono (cf_LongTrainModel_half l D k am d_t i_t j_t r_t_tape (eF σ) r_t_h r_t_read r_t_names r_t_reserved r_t_wagons r_t_foremost r_t_bears r_t_strengths r_t_worn r_t_worst r_t_places r_t_bestPlaces r_t_loadMay r_t_loadAt r_t_told r_t_mostLoads r_t_judgedAt r_t_before r_t_kept r_t_namesKept r_t_isKept (eI v1) (eI v2) (fun r i_t' => (∃ z, tfA σ T v1 v2 = some z ∧ r = z ∧ MF σ T P Z im i_t' (eF σ) r_t_tape r_t_bestPlaces r_t_loadAt r_t_judgedAt r_t_reserved r_t_isKept r_t_kept ∧ i_t' 0 = 0) ∨ (tfA σ T v1 v2 = none ∧ MF σ T P Z im i_t' (eF σ) r_t_tape r_t_bestPlaces r_t_loadAt r_t_judgedAt r_t_reserved r_t_isKept r_t_kept ∧ i_t' 0 = 1)) ?_) (fun r w1_ hq => ?_)
  · exact M_half V.O Eqv.rf M.R V.K b1 b2 (fun h z _ K h0 => Or.inr ⟨by unfold tfA; rw [if_neg h], M.kp K, h0⟩) (fun h _ K h0 => Or.inl ⟨_, by unfold tfA; rw [if_pos h], rfl, M.kp K, h0⟩)
  · obtain ⟨i_t', rfl, hr⟩ := hq
    rcases hr with ⟨z, h1, h2, M', h3⟩ | ⟨h1, M', h3⟩
    · exact Or.inl ⟨z, h1, h2, d_t, i_t', j_t, r_t_tape, (eF σ), r_t_h, r_t_read, r_t_names, r_t_reserved, r_t_wagons, r_t_foremost, r_t_bears, r_t_strengths, r_t_worn, r_t_worst, r_t_places, r_t_bestPlaces, r_t_loadMay, r_t_loadAt, r_t_told, r_t_mostLoads, r_t_judgedAt, r_t_before, r_t_kept, r_t_namesKept, r_t_isKept, rfl, M', h3⟩
    · exact Or.inr ⟨h1, d_t, i_t', j_t, r_t_tape, (eF σ), r_t_h, r_t_read, r_t_names, r_t_reserved, r_t_wagons, r_t_foremost, r_t_bears, r_t_strengths, r_t_worn, r_t_worst, r_t_places, r_t_bestPlaces, r_t_loadMay, r_t_loadAt, r_t_told, r_t_mostLoads, r_t_judgedAt, r_t_before, r_t_kept, r_t_namesKept, r_t_isKept, rfl, M', h3⟩

set_option maxRecDepth 100000 in
set_option maxHeartbeats 4000000 in
theorem N_strain (l : Launch) (D : va_G) (k : Nat → ClassId) {am : Nat} {σ : Nat → Int} {T : TS} {P : PS} {Z : ZT} {im : Nat → Option VT} {w : va_W} (V : ZOk σ T P Z im) (h : MS k am σ T P Z im w) {v1 : Int} (b1 : B31 v1) {v2 : Int} (b2 : B31 v2) {v3 : Int} (b3 : B31 v3) : CtI l yX12_strain cX12_strain 4 (some .int) 4 92 0 0 D k [.ref am, .int (eI v1), .int (eI v2), .int (eI v3)] w (fun r w' => (∃ z, tsA σ 1 v1 v2 v3 = some z ∧ r = z ∧ MSt k am σ T P Z im 0 w') ∨ (tsA σ 1 v1 v2 v3 = none ∧ MSt k am σ T P Z im 1 w')) := by
  obtain ⟨d_t, i_t, j_t, r_t_tape, r_t_s, r_t_h, r_t_read, r_t_names, r_t_reserved, r_t_wagons, r_t_foremost, r_t_bears, r_t_strengths, r_t_worn, r_t_worst, r_t_places, r_t_bestPlaces, r_t_loadMay, r_t_loadAt, r_t_told, r_t_mostLoads, r_t_judgedAt, r_t_before, r_t_kept, r_t_namesKept, r_t_isKept, rfl, M⟩ := h
  have hs := M.s
  subst hs
  refine CtI.mono (cf_LongTrainModel_strain l D k am d_t i_t j_t r_t_tape (eF σ) r_t_h r_t_read r_t_names r_t_reserved r_t_wagons r_t_foremost r_t_bears r_t_strengths r_t_worn r_t_worst r_t_places r_t_bestPlaces r_t_loadMay r_t_loadAt r_t_told r_t_mostLoads r_t_judgedAt r_t_before r_t_kept r_t_namesKept r_t_isKept (eI v1) (eI v2) (eI v3) (fun r i_t' r_t_wagons' r_t_foremost' r_t_bears' r_t_worst' => (∃ z, tsA σ 1 v1 v2 v3 = some z ∧ r = z ∧ MF σ T P Z im i_t' (eF σ) r_t_tape r_t_bestPlaces r_t_loadAt r_t_judgedAt r_t_reserved r_t_isKept r_t_kept ∧ i_t' 0 = 0) ∨ (tsA σ 1 v1 v2 v3 = none ∧ MF σ T P Z im i_t' (eF σ) r_t_tape r_t_bestPlaces r_t_loadAt r_t_judgedAt r_t_reserved r_t_isKept r_t_kept ∧ i_t' 0 = 1)) ?_) (fun r w1_ hq => ?_)
  · exact M_strain V.O b1 b2 b3 (fun h z _ _ _ _ _ K h0 => Or.inr ⟨by unfold tsA; rw [if_neg h], M.kp K, h0⟩) (fun h _ _ _ _ _ K h0 => Or.inl ⟨_, by unfold tsA; rw [if_pos h], rfl, M.kp K, h0⟩)
  · obtain ⟨i_t', r_t_wagons', r_t_foremost', r_t_bears', r_t_worst', rfl, hr⟩ := hq
    rcases hr with ⟨z, h1, h2, M', h3⟩ | ⟨h1, M', h3⟩
    · exact Or.inl ⟨z, h1, h2, d_t, i_t', j_t, r_t_tape, (eF σ), r_t_h, r_t_read, r_t_names, r_t_reserved, r_t_wagons', r_t_foremost', r_t_bears', r_t_strengths, r_t_worn, r_t_worst', r_t_places, r_t_bestPlaces, r_t_loadMay, r_t_loadAt, r_t_told, r_t_mostLoads, r_t_judgedAt, r_t_before, r_t_kept, r_t_namesKept, r_t_isKept, rfl, M', h3⟩
    · exact Or.inr ⟨h1, d_t, i_t', j_t, r_t_tape, (eF σ), r_t_h, r_t_read, r_t_names, r_t_reserved, r_t_wagons', r_t_foremost', r_t_bears', r_t_strengths, r_t_worn, r_t_worst', r_t_places, r_t_bestPlaces, r_t_loadMay, r_t_loadAt, r_t_told, r_t_mostLoads, r_t_judgedAt, r_t_before, r_t_kept, r_t_namesKept, r_t_isKept, rfl, M', h3⟩

set_option maxRecDepth 100000 in
set_option maxHeartbeats 4000000 in
theorem N_squeeze (l : Launch) (D : va_G) (k : Nat → ClassId) {am : Nat} {σ : Nat → Int} {T : TS} {P : PS} {Z : ZT} {im : Nat → Option VT} {w : va_W} (V : ZOk σ T P Z im) (h : MS k am σ T P Z im w) {v1 : Int} (b1 : B31 v1) {v2 : Int} (b2 : B31 v2) {v3 : Int} (b3 : B31 v3) : CtI l yX12_squeeze cX12_squeeze 4 (some .int) 4 92 0 0 D k [.ref am, .int (eI v1), .int (eI v2), .int (eI v3)] w (fun r w' => (∃ z, tsA σ (-1) v1 v2 v3 = some z ∧ r = z ∧ MSt k am σ T P Z im 0 w') ∨ (tsA σ (-1) v1 v2 v3 = none ∧ MSt k am σ T P Z im 1 w')) := by
  obtain ⟨d_t, i_t, j_t, r_t_tape, r_t_s, r_t_h, r_t_read, r_t_names, r_t_reserved, r_t_wagons, r_t_foremost, r_t_bears, r_t_strengths, r_t_worn, r_t_worst, r_t_places, r_t_bestPlaces, r_t_loadMay, r_t_loadAt, r_t_told, r_t_mostLoads, r_t_judgedAt, r_t_before, r_t_kept, r_t_namesKept, r_t_isKept, rfl, M⟩ := h
  have hs := M.s
  subst hs
  refine CtI.mono (cf_LongTrainModel_squeeze l D k am d_t i_t j_t r_t_tape (eF σ) r_t_h r_t_read r_t_names r_t_reserved r_t_wagons r_t_foremost r_t_bears r_t_strengths r_t_worn r_t_worst r_t_places r_t_bestPlaces r_t_loadMay r_t_loadAt r_t_told r_t_mostLoads r_t_judgedAt r_t_before r_t_kept r_t_namesKept r_t_isKept (eI v1) (eI v2) (eI v3) (fun r i_t' r_t_wagons' r_t_foremost' r_t_bears' r_t_worst' => (∃ z, tsA σ (-1) v1 v2 v3 = some z ∧ r = z ∧ MF σ T P Z im i_t' (eF σ) r_t_tape r_t_bestPlaces r_t_loadAt r_t_judgedAt r_t_reserved r_t_isKept r_t_kept ∧ i_t' 0 = 0) ∨ (tsA σ (-1) v1 v2 v3 = none ∧ MF σ T P Z im i_t' (eF σ) r_t_tape r_t_bestPlaces r_t_loadAt r_t_judgedAt r_t_reserved r_t_isKept r_t_kept ∧ i_t' 0 = 1)) ?_) (fun r w1_ hq => ?_)
  · exact M_squeeze V.O b1 b2 b3 (fun h z _ _ _ _ _ K h0 => Or.inr ⟨by unfold tsA; rw [if_neg h], M.kp K, h0⟩) (fun h _ _ _ _ _ K h0 => Or.inl ⟨_, by unfold tsA; rw [if_pos h], rfl, M.kp K, h0⟩)
  · obtain ⟨i_t', r_t_wagons', r_t_foremost', r_t_bears', r_t_worst', rfl, hr⟩ := hq
    rcases hr with ⟨z, h1, h2, M', h3⟩ | ⟨h1, M', h3⟩
    · exact Or.inl ⟨z, h1, h2, d_t, i_t', j_t, r_t_tape, (eF σ), r_t_h, r_t_read, r_t_names, r_t_reserved, r_t_wagons', r_t_foremost', r_t_bears', r_t_strengths, r_t_worn, r_t_worst', r_t_places, r_t_bestPlaces, r_t_loadMay, r_t_loadAt, r_t_told, r_t_mostLoads, r_t_judgedAt, r_t_before, r_t_kept, r_t_namesKept, r_t_isKept, rfl, M', h3⟩
    · exact Or.inr ⟨h1, d_t, i_t', j_t, r_t_tape, (eF σ), r_t_h, r_t_read, r_t_names, r_t_reserved, r_t_wagons', r_t_foremost', r_t_bears', r_t_strengths, r_t_worn, r_t_worst', r_t_places, r_t_bestPlaces, r_t_loadMay, r_t_loadAt, r_t_told, r_t_mostLoads, r_t_judgedAt, r_t_before, r_t_kept, r_t_namesKept, r_t_isKept, rfl, M', h3⟩
