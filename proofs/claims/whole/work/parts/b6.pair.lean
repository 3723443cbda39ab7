/-! class and reference together (mkpair.py) -/
theorem MS.rt {k : Nat → ClassId} {am : Nat} {σ : Nat → Int} {T : TS} {P : PS} {Z : ZT} {im : Nat → Option VT} {w : va_W} (h : MS k am σ T P Z im w) : RT σ T ∧ RP σ P := by
  obtain ⟨d_t, i_t, j_t, r_t_tape, r_t_s, r_t_h, r_t_read, r_t_names, r_t_reserved, r_t_wagons, r_t_foremost, r_t_bears, r_t_strengths, r_t_worn, r_t_worst, r_t_places, r_t_bestPlaces, r_t_loadMay, r_t_loadAt, r_t_told, r_t_mostLoads, r_t_judgedAt, r_t_before, r_t_kept, r_t_namesKept, r_t_isKept, _, M⟩ := h
  exact ⟨M.R, M.RP⟩
def Inv (k : Nat → ClassId) (ax am : Nat) (wx wm : va_W) : Prop := ∃ (σ : Nat → Int) (T : TS) (P : PS) (Z : ZT) (im : Nat → Option VT), ZOk σ T P Z im ∧ XS k ax σ T P Z im wx ∧ MS k am σ T P Z im wm
theorem ZOk.z {σ : Nat → Int} {T : TS} {P : PS} {Z Z' : ZT} {im : Nat → Option VT} (V : ZOk σ T P Z im) (h1 : Z'.n ≤ 940) (h2 : Z'.pm ≤ 4) (h3 : -1 ≤ Z'.lm ∧ Z'.lm ≤ 8) : ZOk σ T P Z' im := ⟨V.O, V.K, V.PK, V.c, h1, h2, h3, V.im⟩
theorem ZOk.tp {σ : Nat → Int} {T : TS} {P : PS} {Z : ZT} {im : Nat → Option VT} (V : ZOk σ T P Z im) {n : Nat} {tr : F32} {fk : Int32} (h1 : n ≤ 940) : ZOk σ T P (Z.tp n tr fk) im := V.z h1 V.pm V.lm
theorem ZOk.e {σ σ' : Nat → Int} {T T' : TS} {P P' : PS} {Z Z' : ZT} {im : Nat → Option VT} (V : ZOk σ T P Z im) (e : Eqv σ σ') (K : TOk σ T') (PK : POk P') (R : RP σ' P') (h1 : Z'.n ≤ 940) (h2 : Z'.pm ≤ 4) (h3 : -1 ≤ Z'.lm ∧ Z'.lm ≤ 8) : ZOk σ' T' P' Z' im := ⟨V.O.c e, K.e V.O e, PK, R.n, h1, h2, h3, V.im⟩
theorem flt_ne {k q m : Nat} {f : Nat → Int} (h : flt k q = (0, m, f)) (h1 : 1 ≤ k) : False := by
  have := congrArg Prod.fst h
  unfold flt at this
  simp only [] at this
  omega
theorem flt_in {k q k' q' : Nat} (h : flt k q = flt k' q') : k = k' ∧ q = q' := by
  have h1 := congrArg Prod.fst h
  have h2 := congrArg (fun z => z.2.1) h
  unfold flt at h1 h2
  exact ⟨h1, h2⟩

theorem P_fault (l : Launch) (D : va_G) (k : Nat → ClassId) (K : Nat → Nat) {ax am : Nat} {wx wm : va_W} (h : Inv k ax am wx wm) : CeI l yX11_fault cX11_fault 1 (some .int) 0 0 0 0 D k K [.ref ax] wx (fun r wx' => CtI l yX12_fault cX12_fault 1 (some .int) 0 0 0 0 D k [.ref am] wm (fun r' wm' => r' = r ∧ Inv k ax am wx' wm')) := by
  obtain ⟨σ, T, P, Z, im, V, hx, hm⟩ := h
  refine CeI.mono (X_fault l D k K V hx ) (fun r wx' hq => ?_)
  obtain ⟨hr, hx'⟩ := hq
  refine CtI.mono (N_fault l D k V hm ) (fun r' wm' hq => ?_)
  obtain ⟨hr', hm'⟩ := hq
  exact ⟨hr'.trans hr.symm, σ, T, P, Z, im, V, hx', hm'⟩

theorem P_train (l : Launch) (D : va_G) (k : Nat → ClassId) (K : Nat → Nat) {ax am : Nat} {wx wm : va_W} (h : Inv k ax am wx wm) (n1 : Int32) : CeI l yX11_train cX11_train 3 (some .int) 3 67 0 0 D k K [.ref ax, .int n1] wx (fun r wx' => CtI l yX12_train cX12_train 4 (some .int) 3 67 0 0 D k [.ref am, .int n1] wm (fun r' wm' => r' = r ∧ Inv k ax am wx' wm')) := by
  obtain ⟨σ, T, P, Z, im, V, hx, hm⟩ := h
  obtain ⟨v1, b1, rfl⟩ := ei_ex n1
  refine CeI.mono (X_train l D k K V hx b1) (fun r wx' hq => ?_)
  obtain ⟨hr, hx'⟩ := hq
  refine CtI.mono (N_train l D k V hm b1) (fun r' wm' hq => ?_)
  obtain ⟨hr', hm'⟩ := hq
  exact ⟨hr'.trans hr.symm, σ, T, P, Z, im, V, hx', hm'⟩

theorem P_span (l : Launch) (D : va_G) (k : Nat → ClassId) (K : Nat → Nat) {ax am : Nat} {wx wm : va_W} (h : Inv k ax am wx wm) (n1 : Int32) (n2 : Int32) (n3 : Int32) : CeI l yX11_span cX11_span 4 (some .int) 4 92 0 0 D k K [.ref ax, .int n1, .int n2, .int n3] wx (fun r wx' => CtI l yX12_span cX12_span 9 (some .int) 2 44 0 0 D k [.ref am, .int n1, .int n2, .int n3] wm (fun r' wm' => r' = r ∧ Inv k ax am wx' wm')) := by
  obtain ⟨σ, T, P, Z, im, V, hx, hm⟩ := h
  obtain ⟨v1, b1, rfl⟩ := ei_ex n1
  obtain ⟨v2, b2, rfl⟩ := ei_ex n2
  obtain ⟨v3, b3, rfl⟩ := ei_ex n3
  refine CeI.mono (X_span l D k K V hx b1 b2 b3) (fun r wx' hq => ?_)
  obtain ⟨hr, hx'⟩ := hq
  refine CtI.mono (N_span l D k V hm b1 b2 b3) (fun r' wm' hq => ?_)
  obtain ⟨hr', hm'⟩ := hq
  exact ⟨hr'.trans hr.symm, σ, T, P, Z, im, V, hx', hm'⟩

theorem P_loop (l : Launch) (D : va_G) (k : Nat → ClassId) (K : Nat → Nat) {ax am : Nat} {wx wm : va_W} (h : Inv k ax am wx wm) (n1 : Int32) (n2 : Int32) : CeI l yX11_loop cX11_loop 3 (some .int) 0 0 0 0 D k K [.ref ax, .int n1, .int n2] wx (fun r wx' => CtI l yX12_loop cX12_loop 3 (some .int) 1 22 0 0 D k [.ref am, .int n1, .int n2] wm (fun r' wm' => r' = r ∧ Inv k ax am wx' wm')) := by
  obtain ⟨σ, T, P, Z, im, V, hx, hm⟩ := h
  obtain ⟨v1, b1, rfl⟩ := ei_ex n1
  obtain ⟨v2, b2, rfl⟩ := ei_ex n2
  refine CeI.mono (X_loop l D k K V hx b1 b2) (fun r wx' hq => ?_)
  obtain ⟨hr, hx'⟩ := hq
  refine CtI.mono (N_loop l D k V hm b1 b2) (fun r' wm' hq => ?_)
  obtain ⟨hr', hm'⟩ := hq
  exact ⟨hr'.trans hr.symm, σ, T, P, Z, im, V, hx', hm'⟩

theorem P_climb (l : Launch) (D : va_G) (k : Nat → ClassId) (K : Nat → Nat) {ax am : Nat} {wx wm : va_W} (h : Inv k ax am wx wm) (n1 : Int32) (n2 : Int32) (n3 : Int32) : CeI l yX11_climb cX11_climb 4 (some .int) 6 138 0 0 D k K [.ref ax, .int n1, .int n2, .int n3] wx (fun r wx' => CtI l yX12_climb cX12_climb 4 (some .int) 4 92 0 0 D k [.ref am, .int n1, .int n2, .int n3] wm (fun r' wm' => r' = r ∧ Inv k ax am wx' wm')) := by
  obtain ⟨σ, T, P, Z, im, V, hx, hm⟩ := h
  obtain ⟨v1, b1, rfl⟩ := ei_ex n1
  obtain ⟨v2, b2, rfl⟩ := ei_ex n2
  obtain ⟨v3, b3, rfl⟩ := ei_ex n3
  refine CeI.mono (X_climb l D k K V hx b1 b2 b3) (fun r wx' hq => ?_)
  obtain ⟨hr, hx'⟩ := hq
  refine CtI.mono (N_climb l D k V hm b1 b2 b3) (fun r' wm' hq => ?_)
  obtain ⟨hr', hm'⟩ := hq
  exact ⟨hr'.trans hr.symm, σ, T, P, Z, im, V, hx', hm'⟩

theorem P_needed (l : Launch) (D : va_G) (k : Nat → ClassId) (K : Nat → Nat) {ax am : Nat} {wx wm : va_W} (h : Inv k ax am wx wm) (n1 : Int32) (n2 : Int32) : CeI l yX11_needed cX11_needed 3 (some .int) 6 138 0 0 D k K [.ref ax, .int n1, .int n2] wx (fun r wx' => CtI l yX12_needed cX12_needed 6 (some .int) 3 66 0 0 D k [.ref am, .int n1, .int n2] wm (fun r' wm' => r' = r ∧ Inv k ax am wx' wm')) := by
  obtain ⟨σ, T, P, Z, im, V, hx, hm⟩ := h
  obtain ⟨v1, b1, rfl⟩ := ei_ex n1
  obtain ⟨v2, b2, rfl⟩ := ei_ex n2
  refine CeI.mono (X_needed l D k K V hx b1 b2) (fun r wx' hq => ?_)
  obtain ⟨hr, hx'⟩ := hq
  refine CtI.mono (N_needed l D k V hm b1 b2) (fun r' wm' hq => ?_)
  obtain ⟨hr', hm'⟩ := hq
  exact ⟨hr'.trans hr.symm, σ, T, P, Z, im, V, hx', hm'⟩

theorem P_sanded (l : Launch) (D : va_G) (k : Nat → ClassId) (K : Nat → Nat) {ax am : Nat} {wx wm : va_W} (h : Inv k ax am wx wm) (n1 : Int32) (n2 : Int32) (n3 : Int32) : CeI l yX11_sanded cX11_sanded 4 (some .int) 6 139 0 0 D k K [.ref ax, .int n1, .int n2, .int n3] wx (fun r wx' => CtI l yX12_sanded cX12_sanded 5 (some .int) 4 92 0 0 D k [.ref am, .int n1, .int n2, .int n3] wm (fun r' wm' => r' = r ∧ Inv k ax am wx' wm')) := by
  obtain ⟨σ, T, P, Z, im, V, hx, hm⟩ := h
  obtain ⟨v1, b1, rfl⟩ := ei_ex n1
  obtain ⟨v2, b2, rfl⟩ := ei_ex n2
  obtain ⟨v3, b3, rfl⟩ := ei_ex n3
  refine CeI.mono (X_sanded l D k K V hx b1 b2 b3) (fun r wx' hq => ?_)
  obtain ⟨hr, hx'⟩ := hq
  refine CtI.mono (N_sanded l D k V hm b1 b2 b3) (fun r' wm' hq => ?_)
  obtain ⟨hr', hm'⟩ := hq
  exact ⟨hr'.trans hr.symm, σ, T, P, Z, im, V, hx', hm'⟩

theorem P_helped (l : Launch) (D : va_G) (k : Nat → ClassId) (K : Nat → Nat) {ax am : Nat} {wx wm : va_W} (h : Inv k ax am wx wm) (n1 : Int32) (n2 : Int32) (n3 : Int32) (n4 : Int32) : CeI l yX11_helped cX11_helped 5 (some .int) 6 143 0 0 D k K [.ref ax, .int n1, .int n2, .int n3, .int n4] wx (fun r wx' => CtI l yX12_helped cX12_helped 8 (some .int) 4 94 0 0 D k [.ref am, .int n1, .int n2, .int n3, .int n4] wm (fun r' wm' => r' = r ∧ Inv k ax am wx' wm')) := by
  obtain ⟨σ, T, P, Z, im, V, hx, hm⟩ := h
  obtain ⟨v1, b1, rfl⟩ := ei_ex n1
  obtain ⟨v2, b2, rfl⟩ := ei_ex n2
  obtain ⟨v3, b3, rfl⟩ := ei_ex n3
  obtain ⟨v4, b4, rfl⟩ := ei_ex n4
  refine CeI.mono (X_helped l D k K V hx b1 b2 b3 b4) (fun r wx' hq => ?_)
  obtain ⟨hr, hx'⟩ := hq
  refine CtI.mono (N_helped l D k V hm b1 b2 b3 b4) (fun r' wm' hq => ?_)
  obtain ⟨hr', hm'⟩ := hq
  exact ⟨hr'.trans hr.symm, σ, T, P, Z, im, V, hx', hm'⟩

theorem P_lives (l : Launch) (D : va_G) (k : Nat → ClassId) (K : Nat → Nat) {ax am : Nat} {wx wm : va_W} (h : Inv k ax am wx wm) (n1 : Int32) : CeI l yX11_lives cX11_lives 2 (some .int) 5 115 0 0 D k K [.ref ax, .int n1] wx (fun r wx' => CtI l yX12_lives cX12_lives 2 (some .int) 4 91 0 0 D k [.ref am, .int n1] wm (fun r' wm' => r' = r ∧ Inv k ax am wx' wm')) := by
  obtain ⟨σ, T, P, Z, im, V, hx, hm⟩ := h
  obtain ⟨v1, b1, rfl⟩ := ei_ex n1
  refine CeI.mono (X_lives l D k K V hx b1) (fun r wx' hq => ?_)
  obtain ⟨hr, hx'⟩ := hq
  refine CtI.mono (N_lives l D k V hm b1) (fun r' wm' hq => ?_)
  obtain ⟨hr', hm'⟩ := hq
  exact ⟨hr'.trans hr.symm, σ, T, P, Z, im, V, hx', hm'⟩

theorem P_placed (l : Launch) (D : va_G) (k : Nat → ClassId) (K : Nat → Nat) {ax am : Nat} {wx wm : va_W} (h : Inv k ax am wx wm) (n1 : Int32) : CeI l yX11_placed cX11_placed 2 (some .int) 0 0 0 0 D k K [.ref ax, .int n1] wx (fun r wx' => CtI l yX12_placed cX12_placed 2 (some .int) 1 22 0 0 D k [.ref am, .int n1] wm (fun r' wm' => r' = r ∧ Inv k ax am wx' wm')) := by
  obtain ⟨σ, T, P, Z, im, V, hx, hm⟩ := h
  obtain ⟨v1, b1, rfl⟩ := ei_ex n1
  refine CeI.mono (X_placed l D k K V hx b1) (fun r wx' hq => ?_)
  obtain ⟨hr, hx'⟩ := hq
  refine CtI.mono (N_placed l D k V hm b1) (fun r' wm' hq => ?_)
  obtain ⟨hr', hm'⟩ := hq
  exact ⟨hr'.trans hr.symm, σ, T, P, Z, im, V, hx', hm'⟩

theorem P_platform (l : Launch) (D : va_G) (k : Nat → ClassId) (K : Nat → Nat) {ax am : Nat} {wx wm : va_W} (h : Inv k ax am wx wm) (n1 : Int32) : CeI l yX11_platform cX11_platform 2 (some .int) 5 114 0 0 D k K [.ref ax, .int n1] wx (fun r wx' => CtI l yX12_platform cX12_platform 2 (some .int) 4 89 0 0 D k [.ref am, .int n1] wm (fun r' wm' => r' = r ∧ Inv k ax am wx' wm')) := by
  obtain ⟨σ, T, P, Z, im, V, hx, hm⟩ := h
  obtain ⟨v1, b1, rfl⟩ := ei_ex n1
  refine CeI.mono (X_platform l D k K V hx b1) (fun r wx' hq => ?_)
  obtain ⟨hr, hx'⟩ := hq
  refine CtI.mono (N_platform l D k V hm b1) (fun r' wm' hq => ?_)
  obtain ⟨hr', hm'⟩ := hq
  exact ⟨hr'.trans hr.symm, σ, T, P, Z, im, V, hx', hm'⟩

theorem P_cook (l : Launch) (D : va_G) (k : Nat → ClassId) (K : Nat → Nat) {ax am : Nat} {wx wm : va_W} (h : Inv k ax am wx wm) (n1 : Int32) (n2 : Int32) (n3 : Int32) : CeI l yX11_cook cX11_cook 4 (some .int) 7 160 0 0 D k K [.ref ax, .int n1, .int n2, .int n3] wx (fun r wx' => CtI l yX12_cook cX12_cook 10 (some .int) 3 67 0 0 D k [.ref am, .int n1, .int n2, .int n3] wm (fun r' wm' => r' = r ∧ Inv k ax am wx' wm')) := by
  obtain ⟨σ, T, P, Z, im, V, hx, hm⟩ := h
  obtain ⟨v1, b1, rfl⟩ := ei_ex n1
  obtain ⟨v2, b2, rfl⟩ := ei_ex n2
  obtain ⟨v3, b3, rfl⟩ := ei_ex n3
  refine CeI.mono (X_cook l D k K V hx b1 b2 b3) (fun r wx' hq => ?_)
  obtain ⟨hr, hx'⟩ := hq
  refine CtI.mono (N_cook l D k V hm b1 b2 b3) (fun r' wm' hq => ?_)
  obtain ⟨hr', hm'⟩ := hq
  exact ⟨hr'.trans hr.symm, σ, T, P, Z, im, V, hx', hm'⟩

theorem P_back (l : Launch) (D : va_G) (k : Nat → ClassId) (K : Nat → Nat) {ax am : Nat} {wx wm : va_W} (h : Inv k ax am wx wm) (n1 : Int32) (n2 : Int32) (n3 : Int32) : CeI l yX11_back cX11_back 4 (some .int) 7 160 0 0 D k K [.ref ax, .int n1, .int n2, .int n3] wx (fun r wx' => CtI l yX12_back cX12_back 10 (some .int) 3 67 0 0 D k [.ref am, .int n1, .int n2, .int n3] wm (fun r' wm' => r' = r ∧ Inv k ax am wx' wm')) := by
  obtain ⟨σ, T, P, Z, im, V, hx, hm⟩ := h
  obtain ⟨v1, b1, rfl⟩ := ei_ex n1
  obtain ⟨v2, b2, rfl⟩ := ei_ex n2
  obtain ⟨v3, b3, rfl⟩ := ei_ex n3
  refine CeI.mono (X_back l D k K V hx b1 b2 b3) (fun r wx' hq => ?_)
  obtain ⟨hr, hx'⟩ := hq
  refine CtI.mono (N_back l D k V hm b1 b2 b3) (fun r' wm' hq => ?_)
  obtain ⟨hr', hm'⟩ := hq
  exact ⟨hr'.trans hr.symm, σ, T, P, Z, im, V, hx', hm'⟩

theorem P_room (l : Launch) (D : va_G) (k : Nat → ClassId) (K : Nat → Nat) {ax am : Nat} {wx wm : va_W} (h : Inv k ax am wx wm) (n1 : Int32) : CeI l yX11_room cX11_room 2 (some .int) 5 112 0 0 D k K [.ref ax, .int n1] wx (fun r wx' => CtI l yX12_room cX12_room 2 (some .int) 3 66 0 0 D k [.ref am, .int n1] wm (fun r' wm' => r' = r ∧ Inv k ax am wx' wm')) := by
  obtain ⟨σ, T, P, Z, im, V, hx, hm⟩ := h
  obtain ⟨v1, b1, rfl⟩ := ei_ex n1
  refine CeI.mono (X_room l D k K V hx b1) (fun r wx' hq => ?_)
  obtain ⟨hr, hx'⟩ := hq
  refine CtI.mono (N_room l D k V hm b1) (fun r' wm' hq => ?_)
  obtain ⟨hr', hm'⟩ := hq
  exact ⟨hr'.trans hr.symm, σ, T, P, Z, im, V, hx', hm'⟩

theorem P_load (l : Launch) (D : va_G) (k : Nat → ClassId) (K : Nat → Nat) {ax am : Nat} {wx wm : va_W} (h : Inv k ax am wx wm) (n1 : Int32) : CeI l yX11_load cX11_load 2 (some .int) 0 0 0 0 D k K [.ref ax, .int n1] wx (fun r wx' => CtI l yX12_load cX12_load 2 (some .int) 1 22 0 0 D k [.ref am, .int n1] wm (fun r' wm' => r' = r ∧ Inv k ax am wx' wm')) := by
  obtain ⟨σ, T, P, Z, im, V, hx, hm⟩ := h
  obtain ⟨v1, b1, rfl⟩ := ei_ex n1
  refine CeI.mono (X_load l D k K V hx b1) (fun r wx' hq => ?_)
  obtain ⟨hr, hx'⟩ := hq
  refine CtI.mono (N_load l D k V hm b1) (fun r' wm' hq => ?_)
  obtain ⟨hr', hm'⟩ := hq
  exact ⟨hr'.trans hr.symm, σ, T, P, Z, im, V, hx', hm'⟩

theorem P_cross (l : Launch) (D : va_G) (k : Nat → ClassId) (K : Nat → Nat) {ax am : Nat} {wx wm : va_W} (h : Inv k ax am wx wm) (n1 : Int32) (n2 : Int32) (n3 : Int32) (n4 : Int32) (n5 : Int32) : CeI l yX11_cross cX11_cross 15 (some .int) 1 32 0 0 D k K [.ref ax, .int n1, .int n2, .int n3, .int n4, .int n5] wx (fun r wx' => CtI l yX12_cross cX12_cross 13 (some .int) 2 43 0 0 D k [.ref am, .int n1, .int n2, .int n3, .int n4, .int n5] wm (fun r' wm' => r' = r ∧ Inv k ax am wx' wm')) := by
  obtain ⟨σ, T, P, Z, im, V, hx, hm⟩ := h
  obtain ⟨v1, b1, rfl⟩ := ei_ex n1
  obtain ⟨v2, b2, rfl⟩ := ei_ex n2
  obtain ⟨v3, b3, rfl⟩ := ei_ex n3
  obtain ⟨v4, b4, rfl⟩ := ei_ex n4
  obtain ⟨v5, b5, rfl⟩ := ei_ex n5
  refine CeI.mono (X_cross l D k K V hx b1 b2 b3 b4 b5) (fun r wx' hq => ?_)
  obtain ⟨hr, hx'⟩ := hq
  refine CtI.mono (N_cross l D k V hm b1 b2 b3 b4 b5) (fun r' wm' hq => ?_)
  obtain ⟨hr', hm'⟩ := hq
  exact ⟨hr'.trans hr.symm, σ, T, P, Z, im, V, hx', hm'⟩

theorem P_ring (l : Launch) (D : va_G) (k : Nat → ClassId) (K : Nat → Nat) {ax am : Nat} {wx wm : va_W} (h : Inv k ax am wx wm) (n1 : Int32) (n2 : Int32) (n3 : Int32) (n4 : Int32) : CeI l yX11_ring cX11_ring 8 (some .int) 1 21 0 0 D k K [.ref ax, .int n1, .int n2, .int n3, .int n4] wx (fun r wx' => CtI l yX12_ring cX12_ring 7 (some .int) 2 43 0 0 D k [.ref am, .int n1, .int n2, .int n3, .int n4] wm (fun r' wm' => r' = r ∧ Inv k ax am wx' wm')) := by
  obtain ⟨σ, T, P, Z, im, V, hx, hm⟩ := h
  obtain ⟨v1, b1, rfl⟩ := ei_ex n1
  obtain ⟨v2, b2, rfl⟩ := ei_ex n2
  obtain ⟨v3, b3, rfl⟩ := ei_ex n3
  obtain ⟨v4, b4, rfl⟩ := ei_ex n4
  refine CeI.mono (X_ring l D k K V hx b1 b2 b3 b4) (fun r wx' hq => ?_)
  obtain ⟨hr, hx'⟩ := hq
  refine CtI.mono (N_ring l D k V hm b1 b2 b3 b4) (fun r' wm' hq => ?_)
  obtain ⟨hr', hm'⟩ := hq
  exact ⟨hr'.trans hr.symm, σ, T, P, Z, im, V, hx', hm'⟩

theorem P_judged (l : Launch) (D : va_G) (k : Nat → ClassId) (K : Nat → Nat) {ax am : Nat} {wx wm : va_W} (h : Inv k ax am wx wm) (n1 : Int32) : CeI l yX11_judged cX11_judged 2 (some .int) 0 0 0 0 D k K [.ref ax, .int n1] wx (fun r wx' => CtI l yX12_judged cX12_judged 2 (some .int) 1 22 0 0 D k [.ref am, .int n1] wm (fun r' wm' => r' = r ∧ Inv k ax am wx' wm')) := by
  obtain ⟨σ, T, P, Z, im, V, hx, hm⟩ := h
  obtain ⟨v1, b1, rfl⟩ := ei_ex n1
  refine CeI.mono (X_judged l D k K V hx b1) (fun r wx' hq => ?_)
  obtain ⟨hr, hx'⟩ := hq
  refine CtI.mono (N_judged l D k V hm b1) (fun r' wm' hq => ?_)
  obtain ⟨hr', hm'⟩ := hq
  exact ⟨hr'.trans hr.symm, σ, T, P, Z, im, V, hx', hm'⟩

theorem P_bet (l : Launch) (D : va_G) (k : Nat → ClassId) (K : Nat → Nat) {ax am : Nat} {wx wm : va_W} (h : Inv k ax am wx wm) (n1 : Int32) : CeI l yX11_bet cX11_bet 2 (some .int) 5 114 0 0 D k K [.ref ax, .int n1] wx (fun r wx' => CtI l yX12_bet cX12_bet 2 (some .int) 4 90 0 0 D k [.ref am, .int n1] wm (fun r' wm' => r' = r ∧ Inv k ax am wx' wm')) := by
  obtain ⟨σ, T, P, Z, im, V, hx, hm⟩ := h
  obtain ⟨v1, b1, rfl⟩ := ei_ex n1
  refine CeI.mono (X_bet l D k K V hx b1) (fun r wx' hq => ?_)
  obtain ⟨hr, hx'⟩ := hq
  refine CtI.mono (N_bet l D k V hm b1) (fun r' wm' hq => ?_)
  obtain ⟨hr', hm'⟩ := hq
  exact ⟨hr'.trans hr.symm, σ, T, P, Z, im, V, hx', hm'⟩

theorem P_bets (l : Launch) (D : va_G) (k : Nat → ClassId) (K : Nat → Nat) {ax am : Nat} {wx wm : va_W} (h : Inv k ax am wx wm) (n1 : Int32) (n2 : Int32) (n3 : Int32) : CeI l yX11_bets cX11_bets 4 (some .int) 5 120 0 0 D k K [.ref ax, .int n1, .int n2, .int n3] wx (fun r wx' => CtI l yX12_bets cX12_bets 7 (some .int) 4 90 0 0 D k [.ref am, .int n1, .int n2, .int n3] wm (fun r' wm' => r' = r ∧ Inv k ax am wx' wm')) := by
  obtain ⟨σ, T, P, Z, im, V, hx, hm⟩ := h
  obtain ⟨v1, b1, rfl⟩ := ei_ex n1
  obtain ⟨v2, b2, rfl⟩ := ei_ex n2
  obtain ⟨v3, b3, rfl⟩ := ei_ex n3
  refine CeI.mono (X_bets l D k K V hx b1 b2 b3) (fun r wx' hq => ?_)
  obtain ⟨hr, hx'⟩ := hq
  refine CtI.mono (N_bets l D k V hm b1 b2 b3) (fun r' wm' hq => ?_)
  obtain ⟨hr', hm'⟩ := hq
  exact ⟨hr'.trans hr.symm, σ, T, P, Z, im, V, hx', hm'⟩

theorem P_count (l : Launch) (D : va_G) (k : Nat → ClassId) (K : Nat → Nat) {ax am : Nat} {wx wm : va_W} (h : Inv k ax am wx wm) (n1 : Int32) : CeI l yX11_count cX11_count 3 (some .int) 0 0 0 0 D k K [.ref ax, .int n1] wx (fun r wx' => CtI l yX12_count cX12_count 2 (some .int) 0 0 0 0 D k [.ref am, .int n1] wm (fun r' wm' => r' = r ∧ Inv k ax am wx' wm')) := by
  obtain ⟨σ, T, P, Z, im, V, hx, hm⟩ := h
  obtain ⟨v1, b1, rfl⟩ := ei_ex n1
  refine CeI.mono (X_count l D k K V hx b1) (fun r wx' hq => ?_)
  obtain ⟨hr, hx'⟩ := hq
  refine CtI.mono (N_count l D k V hm b1) (fun r' wm' hq => ?_)
  obtain ⟨hr', hm'⟩ := hq
  exact ⟨hr'.trans hr.symm, σ, T, P, Z, im, V, hx', hm'⟩

theorem P_feed (l : Launch) (D : va_G) (k : Nat → ClassId) (K : Nat → Nat) {ax am : Nat} {wx wm : va_W} (h : Inv k ax am wx wm) (n1 : Int32) (n2 : Int32) (n3 : Int32) (n4 : Int32) (n5 : Int32) : CeI l yX11_feed cX11_feed 6 (some .int) 1 22 0 0 D k K [.ref ax, .int n1, .int n2, .int n3, .int n4, .int n5] wx (fun r wx' => CtI l yX12_feed cX12_feed 6 (some .int) 1 22 0 0 D k [.ref am, .int n1, .int n2, .int n3, .int n4, .int n5] wm (fun r' wm' => r' = r ∧ Inv k ax am wx' wm')) := by
  obtain ⟨σ, T, P, Z, im, V, hx, hm⟩ := h
  obtain ⟨v1, b1, rfl⟩ := ei_ex n1
  obtain ⟨v2, b2, rfl⟩ := ei_ex n2
  obtain ⟨v3, b3, rfl⟩ := ei_ex n3
  obtain ⟨v4, b4, rfl⟩ := ei_ex n4
  obtain ⟨v5, b5, rfl⟩ := ei_ex n5
  refine CeI.mono (X_feed l D k K V hx b1 b2 b3 b4 b5) (fun r wx' hq => ?_)
  obtain ⟨hr, hx'⟩ := hq
  refine CtI.mono (N_feed l D k V hm b1 b2 b3 b4 b5) (fun r' wm' hq => ?_)
  obtain ⟨hr', hm'⟩ := hq
  exact ⟨hr'.trans hr.symm, σ, T, P, _, im, by
    unfold fdZ
    split
    · exact V.tp (by assumption)
    · exact V, hx', hm'⟩

theorem P_end (l : Launch) (D : va_G) (k : Nat → ClassId) (K : Nat → Nat) {ax am : Nat} {wx wm : va_W} (h : Inv k ax am wx wm) (n1 : Int32) : CeI l yX11_end cX11_end 2 (some .boolean) 0 0 0 0 D k K [.ref ax, .int n1] wx (fun r wx' => CtI l yX12_end cX12_end 2 (some .boolean) 0 0 0 0 D k [.ref am, .int n1] wm (fun r' wm' => r' = r ∧ Inv k ax am wx' wm')) := by
  obtain ⟨σ, T, P, Z, im, V, hx, hm⟩ := h
  obtain ⟨v1, b1, rfl⟩ := ei_ex n1
  refine CeI.mono (X_end l D k K V hx b1) (fun r wx' hq => ?_)
  obtain ⟨hr, hx'⟩ := hq
  refine CtI.mono (N_end l D k V hm b1) (fun r' wm' hq => ?_)
  obtain ⟨hr', hm'⟩ := hq
  exact ⟨hr'.trans hr.symm, σ, T, P, _, im, by
    have hn := V.n
    unfold enZ
    split
    · exact V.tp (by omega)
    · exact V, hx', hm'⟩

theorem P_longest (l : Launch) (D : va_G) (k : Nat → ClassId) (K : Nat → Nat) {ax am : Nat} {wx wm : va_W} (h : Inv k ax am wx wm) : CeI l yX11_longest cX11_longest 1 (some .int) 15 374 0 0 D k K [.ref ax] wx (fun r wx' => CtI l yX12_longest cX12_longest 5 (some .int) 4 91 0 0 D k [.ref am] wm (fun r' wm' => r' = r ∧ Inv k ax am wx' wm')) := by
  obtain ⟨σ, T, P, Z, im, V, hx, hm⟩ := h
  refine CeI.mono (X_longest l D k K V hx ) (fun r wx' hq => ?_)
  obtain ⟨hr, hx'⟩ := hq
  refine CtI.mono (N_longest l D k V hm ) (fun r' wm' hq => ?_)
  obtain ⟨hr', hm'⟩ := hq
  exact ⟨hr'.trans hr.symm, σ, T, P, lgZ σ Z, im, V.z V.n (by have h1 := lng_nn σ; have h2 := mn4_bd h1; show (mn4 (lngS σ).1).toNat ≤ 4; omega) V.lm, hx', hm'⟩

theorem P_loads (l : Launch) (D : va_G) (k : Nat → ClassId) (K : Nat → Nat) {ax am : Nat} {wx wm : va_W} (h : Inv k ax am wx wm) : CeI l yX11_loads cX11_loads 3 (some .int) 6 141 0 0 D k K [.ref ax] wx (fun r wx' => CtI l yX12_loads cX12_loads 6 (some .int) 4 89 0 0 D k [.ref am] wm (fun r' wm' => r' = r ∧ Inv k ax am wx' wm')) := by
  obtain ⟨σ, T, P, Z, im, V, hx, hm⟩ := h
  refine CeI.mono (X_loads l D k K V hx ) (fun r wx' hq => ?_)
  obtain ⟨hr, hx'⟩ := hq
  refine CtI.mono (N_loads l D k V hm ) (fun r' wm' hq => ?_)
  obtain ⟨hr', hm'⟩ := hq
  exact ⟨hr'.trans hr.symm, σ, T, P, _, im, by
    unfold ldZ
    split
    · next h => exact V.z (Nat.zero_le _) V.pm (by have := h.1; show -1 ≤ (Z.n : Int) ∧ (Z.n : Int) ≤ 8; omega)
    · exact V.tp (Nat.zero_le _), hx', hm'⟩

theorem goK {σ : Nat → Int} {T : TS} (O : LOk σ) (K : TOk σ T) {n s : Int} : TOk σ (goT σ T n s) := by
  unfold goT
  split
  · exact mvs_ok O s _ T K
  · exact K

theorem P_go (l : Launch) (D : va_G) (k : Nat → ClassId) (K : Nat → Nat) {ax am : Nat} {wx wm : va_W} (h : Inv k ax am wx wm) (n1 : Int32) (n2 : Int32) : CeI l yX11_go cX11_go 4 (some .int) 4 99 0 0 D k K [.ref ax, .int n1, .int n2] wx (fun r wx' => CtI l yX12_go cX12_go 3 (some .int) 5 114 0 0 D k [.ref am, .int n1, .int n2] wm (fun r' wm' => r' = r ∧ Inv k ax am wx' wm')) := by
  obtain ⟨σ, T, P, Z, im, V, hx, hm⟩ := h
  obtain ⟨v1, b1, rfl⟩ := ei_ex n1
  obtain ⟨v2, b2, rfl⟩ := ei_ex n2
  refine CeI.mono (X_go l D k K V hx b1 b2) (fun r wx' hq => ?_)
  obtain ⟨hr, hx'⟩ := hq
  refine CtI.mono (N_go l D k V hm b1 b2) (fun r' wm' hq => ?_)
  obtain ⟨hr', σ1, e, hm'⟩ := hq
  have K' : TOk σ (goT σ T v1 v2) := goK V.O V.K
  exact ⟨hr'.trans hr.symm, σ1, _, P, Z, im, V.e e K' V.PK hm'.rt.2 V.n V.pm V.lm, hx'.e V.O K' e, hm'⟩

theorem jdK {σ : Nat → Int} {T : TS} {P : PS} (O : LOk σ) (K : TOk σ T) (PK : POk P) {h : Int} : TOk σ (jdT σ T P h) := by
  unfold jdT
  split
  · exact jd_ok O PK P.n 0 T 0 0 (by omega) K
  · exact K

theorem P_judge (l : Launch) (D : va_G) (k : Nat → ClassId) (K : Nat → Nat) {ax am : Nat} {wx wm : va_W} (h : Inv k ax am wx wm) (n1 : Int32) : CeI l yX11_judge cX11_judge 2 (some .int) 7 175 0 0 D k K [.ref ax, .int n1] wx (fun r wx' => CtI l yX12_judge cX12_judge 5 (some .int) 6 137 0 0 D k [.ref am, .int n1] wm (fun r' wm' => r' = r ∧ Inv k ax am wx' wm')) := by
  obtain ⟨σ, T, P, Z, im, V, hx, hm⟩ := h
  obtain ⟨v1, b1, rfl⟩ := ei_ex n1
  refine CeI.mono (X_judge l D k K V hx b1) (fun r wx' hq => ?_)
  obtain ⟨hr, hx'⟩ := hq
  refine CtI.mono (N_judge l D k V hm b1) (fun r' wm' hq => ?_)
  obtain ⟨hr', σ1, e, hm'⟩ := hq
  have K' : TOk σ (jdT σ T P v1) := jdK V.O V.K V.PK
  have hz : (jdZ σ T P Z v1).n = Z.n ∧ (jdZ σ T P Z v1).pm = Z.pm ∧ (jdZ σ T P Z v1).lm = Z.lm := by
    unfold jdZ
    split <;> exact ⟨rfl, rfl, rfl⟩
  exact ⟨hr'.trans hr.symm, σ1, _, P, _, im, V.e e K' V.PK hm'.rt.2 (hz.1 ▸ V.n) (hz.2.1 ▸ V.pm) (hz.2.2 ▸ V.lm), hx'.e V.O K' e, hm'⟩

theorem P_plan (l : Launch) (D : va_G) (k : Nat → ClassId) (K : Nat → Nat) {ax am : Nat} {wx wm : va_W} (h : Inv k ax am wx wm) : CeI l yX11_plan cX11_plan 3 (some .int) 7 153 0 0 D k K [.ref ax] wx (fun r wx' => CtI l yX12_plan cX12_plan 2 (some .int) 4 87 0 0 D k [.ref am] wm (fun r' wm' => r' = r ∧ Inv k ax am wx' wm')) := by
  obtain ⟨σ, T, P, Z, im, V, hx, hm⟩ := h
  refine CeI.mono (X_plan l D k K V hx) (fun r wx' hq => ?_)
  refine CtI.mono (N_plan l D k V hm) (fun r' wm' hq' => ?_)
  rcases hq with ⟨kk, q, hE, h1, hr, hx'⟩ | ⟨q, f, hE, _, hr, hx'⟩
  · rcases hq' with ⟨kk', q', hE', h1', hr', hm'⟩ | ⟨q', f', σ1, hE', hr', PK', e, hm'⟩
    · obtain ⟨rfl, rfl⟩ := flt_in (hE.symm.trans hE')
      exact ⟨hr'.trans hr.symm, σ, T, P, _, im, V.tp (Nat.zero_le _), hx', hm'⟩
    · exact absurd (hE.symm.trans hE') (fun h => flt_ne h h1)
  · rcases hq' with ⟨kk', q', hE', h1', hr', hm'⟩ | ⟨q', f', σ1, hE', hr', PK', e, hm'⟩
    · exact absurd (hE'.symm.trans hE) (fun h => flt_ne h h1')
    · have hp := hE.symm.trans hE'
      have hp1 : q = q' := congrArg (fun z => z.2.1) hp
      have hp2 : f = f' := congrArg (fun z => z.2.2) hp
      subst hp1 hp2
      exact ⟨hr'.trans hr.symm, σ1, T, _, Z.tp 0 Z.tr 0, im, V.e e V.K PK' hm'.rt.2 (Nat.zero_le _) V.pm V.lm, hx'.e V.O V.K e, hm'⟩

theorem P_line (l : Launch) (D : va_G) (k : Nat → ClassId) (K : Nat → Nat) {ax am : Nat} {wx wm : va_W} (h : Inv k ax am wx wm) : CeI l yX11_line cX11_line 3 (some .int) 11 237 0 0 D k K [.ref ax] wx (fun r wx' => CtI l yX12_line cX12_line 2 (some .int) 5 110 0 0 D k [.ref am] wm (fun r' wm' => r' = r ∧ Inv k ax am wx' wm')) := by
  obtain ⟨σ, T, P, Z, im, V, hx, hm⟩ := h
  obtain ⟨zz, hN⟩ := N_line l D k V hm
  refine CeI.mono (X_line l D k K zz V hx) (fun r wx' hq => ?_)
  refine CtI.mono hN (fun r' wm' hq' => ?_)
  rcases hq with ⟨kk, q, hE, h1, hr, hx'⟩ | ⟨q, f, hE, O', hr, hx'⟩
  · rcases hq' with ⟨kk', q', hE', h1', hr', hm'⟩ | ⟨q', f', hE', _, hr', hm'⟩
    · obtain ⟨rfl, rfl⟩ := flt_in (hE.symm.trans hE')
      exact ⟨hr'.trans hr.symm, σ, T, P, _, im, V.tp (Nat.zero_le _), hx', hm'⟩
    · exact absurd (hE.symm.trans hE') (fun h => flt_ne h h1)
  · rcases hq' with ⟨kk', q', hE', h1', hr', hm'⟩ | ⟨q', f', hE', _, hr', hm'⟩
    · exact absurd (hE'.symm.trans hE) (fun h => flt_ne h h1')
    · have hp := hE.symm.trans hE'
      have hp1 : q = q' := congrArg (fun z => z.2.1) hp
      have hp2 : f = f' := congrArg (fun z => z.2.2) hp
      subst hp1 hp2
      exact ⟨hr'.trans hr.symm, lnF f σ, T0 f, fP 0 z0f, Z.tp 0 Z.tr 0, im, ⟨O'.c lnF_e, (T0_ok O').e O' lnF_e, POk_0, hm'.rt.2.n, Nat.zero_le _, V.pm, V.lm, V.im⟩, hx'.e O' (T0_ok O') lnF_e, hm'⟩
