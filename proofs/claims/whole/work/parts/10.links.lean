theorem inT_1 {w : Cond} (i : Nat) (h : tables_1_1[i]? = some w) (g : goodWord w = true) : w ∈ UU := List.mem_filter.mpr ⟨List.mem_append_right _ (List.mem_append_left _ (List.mem_of_getElem? h)), g⟩
theorem inT_2 {w : Cond} (i : Nat) (h : tables_1_2[i]? = some w) (g : goodWord w = true) : w ∈ UU := List.mem_filter.mpr ⟨List.mem_append_right _ (List.mem_append_right _ (List.mem_append_left _ (List.mem_of_getElem? h))), g⟩
theorem inT_3 {w : Cond} (i : Nat) (h : tables_1_3[i]? = some w) (g : goodWord w = true) : w ∈ UU := List.mem_filter.mpr ⟨List.mem_append_right _ (List.mem_append_right _ (List.mem_append_right _ (List.mem_append_left _ (List.mem_of_getElem? h)))), g⟩
theorem inT_4 {w : Cond} (i : Nat) (h : tables_1_4[i]? = some w) (g : goodWord w = true) : w ∈ UU := List.mem_filter.mpr ⟨List.mem_append_right _ (List.mem_append_right _ (List.mem_append_right _ (List.mem_append_right _ (List.mem_append_left _ (List.mem_of_getElem? h))))), g⟩
theorem inT_5 {w : Cond} (i : Nat) (h : tables_1_5[i]? = some w) (g : goodWord w = true) : w ∈ UU := List.mem_filter.mpr ⟨List.mem_append_right _ (List.mem_append_right _ (List.mem_append_right _ (List.mem_append_right _ (List.mem_append_right _ (List.mem_append_left _ (List.mem_of_getElem? h)))))), g⟩
theorem inT_6 {w : Cond} (i : Nat) (h : tables_1_6[i]? = some w) (g : goodWord w = true) : w ∈ UU := List.mem_filter.mpr ⟨List.mem_append_right _ (List.mem_append_right _ (List.mem_append_right _ (List.mem_append_right _ (List.mem_append_right _ (List.mem_append_right _ (List.mem_append_left _ (List.mem_of_getElem? h))))))), g⟩
theorem inT_7 {w : Cond} (i : Nat) (h : tables_1_7[i]? = some w) (g : goodWord w = true) : w ∈ UU := List.mem_filter.mpr ⟨List.mem_append_right _ (List.mem_append_right _ (List.mem_append_right _ (List.mem_append_right _ (List.mem_append_right _ (List.mem_append_right _ (List.mem_append_right _ (List.mem_append_left _ (List.mem_of_getElem? h)))))))), g⟩
theorem inT_8 {w : Cond} (i : Nat) (h : tables_1_8[i]? = some w) (g : goodWord w = true) : w ∈ UU := List.mem_filter.mpr ⟨List.mem_append_right _ (List.mem_append_right _ (List.mem_append_right _ (List.mem_append_right _ (List.mem_append_right _ (List.mem_append_right _ (List.mem_append_right _ (List.mem_append_right _ (List.mem_append_left _ (List.mem_of_getElem? h))))))))), g⟩
theorem inT_9 {w : Cond} (i : Nat) (h : tables_1_9[i]? = some w) (g : goodWord w = true) : w ∈ UU := List.mem_filter.mpr ⟨List.mem_append_right _ (List.mem_append_right _ (List.mem_append_right _ (List.mem_append_right _ (List.mem_append_right _ (List.mem_append_right _ (List.mem_append_right _ (List.mem_append_right _ (List.mem_append_right _ (List.mem_of_getElem? h))))))))), g⟩
theorem inP_1 {w : Cond} {q : MethodName × Nat} (i : Nat) (h : lw_privs_1[i]? = some q) (e : Cond.selects q.1.cls q.1 q.1 = w) (g : goodWord w = true) : w ∈ UU := List.mem_filter.mpr ⟨List.mem_append_left _ (List.mem_map.mpr ⟨q, List.mem_append_left _ (List.mem_of_getElem? h), e⟩), g⟩
theorem inP_2 {w : Cond} {q : MethodName × Nat} (i : Nat) (h : lw_privs_2[i]? = some q) (e : Cond.selects q.1.cls q.1 q.1 = w) (g : goodWord w = true) : w ∈ UU := List.mem_filter.mpr ⟨List.mem_append_left _ (List.mem_map.mpr ⟨q, List.mem_append_right _ (List.mem_append_left _ (List.mem_of_getElem? h)), e⟩), g⟩
theorem inP_3 {w : Cond} {q : MethodName × Nat} (i : Nat) (h : lw_privs_3[i]? = some q) (e : Cond.selects q.1.cls q.1 q.1 = w) (g : goodWord w = true) : w ∈ UU := List.mem_filter.mpr ⟨List.mem_append_left _ (List.mem_map.mpr ⟨q, List.mem_append_right _ (List.mem_append_right _ (List.mem_append_left _ (List.mem_of_getElem? h))), e⟩), g⟩
theorem inP_4 {w : Cond} {q : MethodName × Nat} (i : Nat) (h : lw_privs_4[i]? = some q) (e : Cond.selects q.1.cls q.1 q.1 = w) (g : goodWord w = true) : w ∈ UU := List.mem_filter.mpr ⟨List.mem_append_left _ (List.mem_map.mpr ⟨q, List.mem_append_right _ (List.mem_append_right _ (List.mem_append_right _ (List.mem_append_left _ (List.mem_of_getElem? h)))), e⟩), g⟩
theorem inP_5 {w : Cond} {q : MethodName × Nat} (i : Nat) (h : lw_privs_5[i]? = some q) (e : Cond.selects q.1.cls q.1 q.1 = w) (g : goodWord w = true) : w ∈ UU := List.mem_filter.mpr ⟨List.mem_append_left _ (List.mem_map.mpr ⟨q, List.mem_append_right _ (List.mem_append_right _ (List.mem_append_right _ (List.mem_append_right _ (List.mem_append_left _ (List.mem_of_getElem? h))))), e⟩), g⟩
theorem inP_6 {w : Cond} {q : MethodName × Nat} (i : Nat) (h : lw_privs_6[i]? = some q) (e : Cond.selects q.1.cls q.1 q.1 = w) (g : goodWord w = true) : w ∈ UU := List.mem_filter.mpr ⟨List.mem_append_left _ (List.mem_map.mpr ⟨q, List.mem_append_right _ (List.mem_append_right _ (List.mem_append_right _ (List.mem_append_right _ (List.mem_append_right _ (List.mem_append_left _ (List.mem_of_getElem? h)))))), e⟩), g⟩
theorem inP_7 {w : Cond} {q : MethodName × Nat} (i : Nat) (h : lw_privs_7[i]? = some q) (e : Cond.selects q.1.cls q.1 q.1 = w) (g : goodWord w = true) : w ∈ UU := List.mem_filter.mpr ⟨List.mem_append_left _ (List.mem_map.mpr ⟨q, List.mem_append_right _ (List.mem_append_right _ (List.mem_append_right _ (List.mem_append_right _ (List.mem_append_right _ (List.mem_append_right _ (List.mem_of_getElem? h)))))), e⟩), g⟩
theorem ml_RX1_31 : Cond.methodLink RX1 31 arraycopyName ∈ UU := (inT_5 217 rfl rfl)
theorem ml_RX3_64 : Cond.methodLink RX3 64 arraycopyName ∈ UU := (inT_6 29 rfl rfl)
theorem ml_RX5_126 : Cond.methodLink RX5 126 arraycopyName ∈ UU := (inT_5 43 rfl rfl)
theorem ml_RX6_25 : Cond.methodLink RX6 25 arraycopyName ∈ UU := (inT_6 34 rfl rfl)
theorem ml_RX8_68 : Cond.methodLink RX8 68 arraycopyName ∈ UU := (inT_5 21 rfl rfl)
theorem fl_RX0_105 : FLp RX0 105 8 1 true (.array .int) := ⟨RX8, TX8, tyX8, rfl, inW8, tyX8_ok, nmX8, by decide, (inT_2 17 rfl rfl), rfl, rfl, rfl⟩
theorem fl_RX0_111 : FLp RX0 111 0 5 false (.int) := ⟨RX0, TX0, tyX0, rfl, inW0, tyX0_ok, nmX0, by decide, (inT_2 156 rfl rfl), rfl, rfl, rfl⟩
theorem fl_RX0_114 : FLp RX0 114 0 6 false (.int) := ⟨RX0, TX0, tyX0, rfl, inW0, tyX0_ok, nmX0, by decide, (inT_2 157 rfl rfl), rfl, rfl, rfl⟩
theorem fl_RX0_117 : FLp RX0 117 3 15 false (.int) := ⟨RX3, TX3, tyX3, rfl, inW3, tyX3_ok, nmX3, by decide, (inT_1 181 rfl rfl), rfl, rfl, rfl⟩
theorem fl_RX0_12 : FLp RX0 12 0 0 true (.object "LongTrain$Row") := ⟨RX0, TX0, tyX0, rfl, inW0, tyX0_ok, nmX0, by decide, (inT_2 147 rfl rfl), rfl, rfl, rfl⟩
theorem fl_RX0_137 : FLp RX0 137 8 3 true (.array .int) := ⟨RX8, TX8, tyX8, rfl, inW8, tyX8_ok, nmX8, by decide, (inT_2 23 rfl rfl), rfl, rfl, rfl⟩
theorem fl_RX0_140 : FLp RX0 140 3 9 false (.int) := ⟨RX3, TX3, tyX3, rfl, inW3, tyX3_ok, nmX3, by decide, (inT_1 154 rfl rfl), rfl, rfl, rfl⟩
theorem fl_RX0_147 : FLp RX0 147 0 9 false (.int) := ⟨RX0, TX0, tyX0, rfl, inW0, tyX0_ok, nmX0, by decide, (inT_2 161 rfl rfl), rfl, rfl, rfl⟩
theorem fl_RX0_18 : FLp RX0 18 0 7 true (.array .int) := ⟨RX0, TX0, tyX0, rfl, inW0, tyX0_ok, nmX0, by decide, (inT_2 158 rfl rfl), rfl, rfl, rfl⟩
theorem fl_RX0_22 : FLp RX0 22 0 8 true (.array .int) := ⟨RX0, TX0, tyX0, rfl, inW0, tyX0_ok, nmX0, by decide, (inT_2 159 rfl rfl), rfl, rfl, rfl⟩
theorem fl_RX0_29 : FLp RX0 29 8 10 false (.int) := ⟨RX8, TX8, tyX8, rfl, inW8, tyX8_ok, nmX8, by decide, (inT_2 45 rfl rfl), rfl, rfl, rfl⟩
theorem fl_RX0_37 : FLp RX0 37 8 8 false (.int) := ⟨RX8, TX8, tyX8, rfl, inW8, tyX8_ok, nmX8, by decide, (inT_2 34 rfl rfl), rfl, rfl, rfl⟩
theorem fl_RX0_40 : FLp RX0 40 8 7 true (.array .int) := ⟨RX8, TX8, tyX8, rfl, inW8, tyX8_ok, nmX8, by decide, (inT_2 30 rfl rfl), rfl, rfl, rfl⟩
theorem fl_RX0_43 : FLp RX0 43 0 1 false (.int) := ⟨RX0, TX0, tyX0, rfl, inW0, tyX0_ok, nmX0, by decide, (inT_2 148 rfl rfl), rfl, rfl, rfl⟩
theorem fl_RX0_46 : FLp RX0 46 0 2 false (.int) := ⟨RX0, TX0, tyX0, rfl, inW0, tyX0_ok, nmX0, by decide, (inT_2 150 rfl rfl), rfl, rfl, rfl⟩
theorem fl_RX0_49 : FLp RX0 49 0 3 false (.int) := ⟨RX0, TX0, tyX0, rfl, inW0, tyX0_ok, nmX0, by decide, (inT_2 152 rfl rfl), rfl, rfl, rfl⟩
theorem fl_RX0_56 : FLp RX0 56 0 4 false (.int) := ⟨RX0, TX0, tyX0, rfl, inW0, tyX0_ok, nmX0, by decide, (inT_2 154 rfl rfl), rfl, rfl, rfl⟩
theorem fl_RX0_62 : FLp RX0 62 3 1 false (.int) := ⟨RX3, TX3, tyX3, rfl, inW3, tyX3_ok, nmX3, by decide, (inT_1 124 rfl rfl), rfl, rfl, rfl⟩
theorem fl_RX0_67 : FLp RX0 67 8 9 false (.int) := ⟨RX8, TX8, tyX8, rfl, inW8, tyX8_ok, nmX8, by decide, (inT_2 40 rfl rfl), rfl, rfl, rfl⟩
theorem fl_RX0_70 : FLp RX0 70 3 10 false (.int) := ⟨RX3, TX3, tyX3, rfl, inW3, tyX3_ok, nmX3, by decide, (inT_1 157 rfl rfl), rfl, rfl, rfl⟩
theorem fl_RX0_86 : FLp RX0 86 3 13 false (.int) := ⟨RX3, TX3, tyX3, rfl, inW3, tyX3_ok, nmX3, by decide, (inT_1 171 rfl rfl), rfl, rfl, rfl⟩
theorem fl_RX1_15 : FLp RX1 15 1 2 true (.array .int) := ⟨RX1, TX1, tyX1, rfl, inW1, tyX1_ok, nmX1, by decide, (inT_2 84 rfl rfl), rfl, rfl, rfl⟩
theorem fl_RX1_18 : FLp RX1 18 1 3 true (.array .int) := ⟨RX1, TX1, tyX1, rfl, inW1, tyX1_ok, nmX1, by decide, (inT_2 85 rfl rfl), rfl, rfl, rfl⟩
theorem fl_RX1_21 : FLp RX1 21 1 4 true (.array .int) := ⟨RX1, TX1, tyX1, rfl, inW1, tyX1_ok, nmX1, by decide, (inT_2 87 rfl rfl), rfl, rfl, rfl⟩
theorem fl_RX1_24 : FLp RX1 24 1 1 false (.int) := ⟨RX1, TX1, tyX1, rfl, inW1, tyX1_ok, nmX1, by decide, (inT_2 83 rfl rfl), rfl, rfl, rfl⟩
theorem fl_RX1_28 : FLp RX1 28 1 5 false (.int) := ⟨RX1, TX1, tyX1, rfl, inW1, tyX1_ok, nmX1, by decide, (inT_2 89 rfl rfl), rfl, rfl, rfl⟩
theorem fl_RX1_37 : FLp RX1 37 8 8 false (.int) := ⟨RX8, TX8, tyX8, rfl, inW8, tyX8_ok, nmX8, by decide, (inT_2 36 rfl rfl), rfl, rfl, rfl⟩
theorem fl_RX1_44 : FLp RX1 44 8 0 true (.array .int) := ⟨RX8, TX8, tyX8, rfl, inW8, tyX8_ok, nmX8, by decide, (inT_2 13 rfl rfl), rfl, rfl, rfl⟩
theorem fl_RX1_9 : FLp RX1 9 1 0 true (.array .int) := ⟨RX1, TX1, tyX1, rfl, inW1, tyX1_ok, nmX1, by decide, (inT_2 82 rfl rfl), rfl, rfl, rfl⟩
theorem fl_RX10_12 : FLp RX10 12 10 0 true (.object "LongTrain$Row") := ⟨RX10, TX10, tyX10, rfl, inW10, tyX10_ok, nmX10, by decide, (inT_2 105 rfl rfl), rfl, rfl, rfl⟩
theorem fl_RX10_21 : FLp RX10 21 10 1 true (.object "LongTrain$Halves") := ⟨RX10, TX10, tyX10, rfl, inW10, tyX10_ok, nmX10, by decide, (inT_2 108 rfl rfl), rfl, rfl, rfl⟩
theorem fl_RX10_32 : FLp RX10 32 10 2 false (.int) := ⟨RX10, TX10, tyX10, rfl, inW10, tyX10_ok, nmX10, by decide, (inT_2 111 rfl rfl), rfl, rfl, rfl⟩
theorem fl_RX10_43 : FLp RX10 43 8 10 false (.int) := ⟨RX8, TX8, tyX8, rfl, inW8, tyX8_ok, nmX8, by decide, (inT_2 47 rfl rfl), rfl, rfl, rfl⟩
theorem fl_RX10_46 : FLp RX10 46 3 1 false (.int) := ⟨RX3, TX3, tyX3, rfl, inW3, tyX3_ok, nmX3, by decide, (inT_1 125 rfl rfl), rfl, rfl, rfl⟩
theorem fl_RX10_51 : FLp RX10 51 3 10 false (.int) := ⟨RX3, TX3, tyX3, rfl, inW3, tyX3_ok, nmX3, by decide, (inT_1 156 rfl rfl), rfl, rfl, rfl⟩
theorem fl_RX10_58 : FLp RX10 58 3 13 false (.int) := ⟨RX3, TX3, tyX3, rfl, inW3, tyX3_ok, nmX3, by decide, (inT_1 170 rfl rfl), rfl, rfl, rfl⟩
theorem fl_RX10_61 : FLp RX10 61 3 14 false (.int) := ⟨RX3, TX3, tyX3, rfl, inW3, tyX3_ok, nmX3, by decide, (inT_1 176 rfl rfl), rfl, rfl, rfl⟩
theorem fl_RX10_68 : FLp RX10 68 8 8 false (.int) := ⟨RX8, TX8, tyX8, rfl, inW8, tyX8_ok, nmX8, by decide, (inT_2 37 rfl rfl), rfl, rfl, rfl⟩
theorem fl_RX11_102 : FLp RX11 102 11 2 false (.int) := ⟨RX11, TX11, tyX11, rfl, inW11, tyX11_ok, nmX11, by decide, (inT_3 17 rfl rfl), rfl, rfl, rfl⟩
theorem fl_RX11_105 : FLp RX11 105 9 0 false (.object "LongTrain$Line") := ⟨RX9, TX9, tyX9, rfl, inW9, tyX9_ok, nmX9, by decide, (inT_2 122 rfl rfl), rfl, rfl, rfl⟩
theorem fl_RX11_108 : FLp RX11 108 9 2 true (.object "LongTrain$Train") := ⟨RX9, TX9, tyX9, rfl, inW9, tyX9_ok, nmX9, by decide, (inT_2 126 rfl rfl), rfl, rfl, rfl⟩
theorem fl_RX11_115 : FLp RX11 115 9 1 false (.object "LongTrain$Plan") := ⟨RX9, TX9, tyX9, rfl, inW9, tyX9_ok, nmX9, by decide, (inT_2 124 rfl rfl), rfl, rfl, rfl⟩
theorem fl_RX11_121 : FLp RX11 121 3 1 false (.int) := ⟨RX3, TX3, tyX3, rfl, inW3, tyX3_ok, nmX3, by decide, (inT_1 127 rfl rfl), rfl, rfl, rfl⟩
theorem fl_RX11_135 : FLp RX11 135 3 2 true (.array .int) := ⟨RX3, TX3, tyX3, rfl, inW3, tyX3_ok, nmX3, by decide, (inT_1 130 rfl rfl), rfl, rfl, rfl⟩
theorem fl_RX11_138 : FLp RX11 138 3 3 false (.int) := ⟨RX3, TX3, tyX3, rfl, inW3, tyX3_ok, nmX3, by decide, (inT_1 135 rfl rfl), rfl, rfl, rfl⟩
theorem fl_RX11_144 : FLp RX11 144 3 6 true (.array .int) := ⟨RX3, TX3, tyX3, rfl, inW3, tyX3_ok, nmX3, by decide, (inT_1 144 rfl rfl), rfl, rfl, rfl⟩
theorem fl_RX11_147 : FLp RX11 147 3 7 false (.int) := ⟨RX3, TX3, tyX3, rfl, inW3, tyX3_ok, nmX3, by decide, (inT_1 147 rfl rfl), rfl, rfl, rfl⟩
theorem fl_RX11_150 : FLp RX11 150 10 0 true (.object "LongTrain$Row") := ⟨RX10, TX10, tyX10, rfl, inW10, tyX10_ok, nmX10, by decide, (inT_2 107 rfl rfl), rfl, rfl, rfl⟩
theorem fl_RX11_154 : FLp RX11 154 8 10 false (.int) := ⟨RX8, TX8, tyX8, rfl, inW8, tyX8_ok, nmX8, by decide, (inT_2 48 rfl rfl), rfl, rfl, rfl⟩
theorem fl_RX11_159 : FLp RX11 159 8 8 false (.int) := ⟨RX8, TX8, tyX8, rfl, inW8, tyX8_ok, nmX8, by decide, (inT_2 38 rfl rfl), rfl, rfl, rfl⟩
theorem fl_RX11_16 : FLp RX11 16 11 3 true (.object "LongTrain$LineReader") := ⟨RX11, TX11, tyX11, rfl, inW11, tyX11_ok, nmX11, by decide, (inT_3 18 rfl rfl), rfl, rfl, rfl⟩
theorem fl_RX11_162 : FLp RX11 162 10 2 false (.int) := ⟨RX10, TX10, tyX10, rfl, inW10, tyX10_ok, nmX10, by decide, (inT_2 113 rfl rfl), rfl, rfl, rfl⟩
theorem fl_RX11_165 : FLp RX11 165 8 9 false (.int) := ⟨RX8, TX8, tyX8, rfl, inW8, tyX8_ok, nmX8, by decide, (inT_2 42 rfl rfl), rfl, rfl, rfl⟩
theorem fl_RX11_168 : FLp RX11 168 3 11 false (.int) := ⟨RX3, TX3, tyX3, rfl, inW3, tyX3_ok, nmX3, by decide, (inT_1 163 rfl rfl), rfl, rfl, rfl⟩
theorem fl_RX11_181 : FLp RX11 181 10 1 true (.object "LongTrain$Halves") := ⟨RX10, TX10, tyX10, rfl, inW10, tyX10_ok, nmX10, by decide, (inT_2 110 rfl rfl), rfl, rfl, rfl⟩
theorem fl_RX11_185 : FLp RX11 185 1 5 false (.int) := ⟨RX1, TX1, tyX1, rfl, inW1, tyX1_ok, nmX1, by decide, (inT_2 91 rfl rfl), rfl, rfl, rfl⟩
theorem fl_RX11_188 : FLp RX11 188 8 0 true (.array .int) := ⟨RX8, TX8, tyX8, rfl, inW8, tyX8_ok, nmX8, by decide, (inT_2 14 rfl rfl), rfl, rfl, rfl⟩
theorem fl_RX11_196 : FLp RX11 196 8 4 true (.array .int) := ⟨RX8, TX8, tyX8, rfl, inW8, tyX8_ok, nmX8, by decide, (inT_2 26 rfl rfl), rfl, rfl, rfl⟩
theorem fl_RX11_199 : FLp RX11 199 8 2 true (.array .int) := ⟨RX8, TX8, tyX8, rfl, inW8, tyX8_ok, nmX8, by decide, (inT_2 20 rfl rfl), rfl, rfl, rfl⟩
theorem fl_RX11_206 : FLp RX11 206 1 3 true (.array .int) := ⟨RX1, TX1, tyX1, rfl, inW1, tyX1_ok, nmX1, by decide, (inT_2 86 rfl rfl), rfl, rfl, rfl⟩
theorem fl_RX11_209 : FLp RX11 209 1 4 true (.array .int) := ⟨RX1, TX1, tyX1, rfl, inW1, tyX1_ok, nmX1, by decide, (inT_2 88 rfl rfl), rfl, rfl, rfl⟩
theorem fl_RX11_23 : FLp RX11 23 11 4 true (.object "LongTrain$Reader") := ⟨RX11, TX11, tyX11, rfl, inW11, tyX11_ok, nmX11, by decide, (inT_3 19 rfl rfl), rfl, rfl, rfl⟩
theorem fl_RX11_235 : FLp RX11 235 0 1 false (.int) := ⟨RX0, TX0, tyX0, rfl, inW0, tyX0_ok, nmX0, by decide, (inT_2 149 rfl rfl), rfl, rfl, rfl⟩
theorem fl_RX11_238 : FLp RX11 238 0 2 false (.int) := ⟨RX0, TX0, tyX0, rfl, inW0, tyX0_ok, nmX0, by decide, (inT_2 151 rfl rfl), rfl, rfl, rfl⟩
theorem fl_RX11_241 : FLp RX11 241 0 3 false (.int) := ⟨RX0, TX0, tyX0, rfl, inW0, tyX0_ok, nmX0, by decide, (inT_2 153 rfl rfl), rfl, rfl, rfl⟩
theorem fl_RX11_260 : FLp RX11 260 0 4 false (.int) := ⟨RX0, TX0, tyX0, rfl, inW0, tyX0_ok, nmX0, by decide, (inT_2 155 rfl rfl), rfl, rfl, rfl⟩
theorem fl_RX11_263 : FLp RX11 263 3 5 false (.int) := ⟨RX3, TX3, tyX3, rfl, inW3, tyX3_ok, nmX3, by decide, (inT_1 141 rfl rfl), rfl, rfl, rfl⟩
theorem fl_RX11_266 : FLp RX11 266 3 4 true (.array .int) := ⟨RX3, TX3, tyX3, rfl, inW3, tyX3_ok, nmX3, by decide, (inT_1 138 rfl rfl), rfl, rfl, rfl⟩
theorem fl_RX11_293 : FLp RX11 293 5 3 false (.int) := ⟨RX5, TX5, tyX5, rfl, inW5, tyX5_ok, nmX5, by decide, (inT_2 198 rfl rfl), rfl, rfl, rfl⟩
theorem fl_RX11_296 : FLp RX11 296 5 2 true (.array .int) := ⟨RX5, TX5, tyX5, rfl, inW5, tyX5_ok, nmX5, by decide, (inT_2 196 rfl rfl), rfl, rfl, rfl⟩
theorem fl_RX11_30 : FLp RX11 30 11 5 true (.object "LongTrain$State") := ⟨RX11, TX11, tyX11, rfl, inW11, tyX11_ok, nmX11, by decide, (inT_3 20 rfl rfl), rfl, rfl, rfl⟩
theorem fl_RX11_325 : FLp RX11 325 0 9 false (.int) := ⟨RX0, TX0, tyX0, rfl, inW0, tyX0_ok, nmX0, by decide, (inT_2 162 rfl rfl), rfl, rfl, rfl⟩
theorem fl_RX11_328 : FLp RX11 328 0 8 true (.array .int) := ⟨RX0, TX0, tyX0, rfl, inW0, tyX0_ok, nmX0, by decide, (inT_2 160 rfl rfl), rfl, rfl, rfl⟩
theorem fl_RX11_34 : FLp RX11 34 11 6 true (.array (.object "LongTrain$State")) := ⟨RX11, TX11, tyX11, rfl, inW11, tyX11_ok, nmX11, by decide, (inT_3 21 rfl rfl), rfl, rfl, rfl⟩
theorem fl_RX11_348 : FLp RX11 348 2 1 false (.boolean) := ⟨RX2, TX2, tyX2, rfl, inW2, tyX2_ok, nmX2, by decide, (inT_3 1 rfl rfl), rfl, rfl, rfl⟩
theorem fl_RX11_352 : FLp RX11 352 2 0 true (.array .int) := ⟨RX2, TX2, tyX2, rfl, inW2, tyX2_ok, nmX2, by decide, (inT_2 239 rfl rfl), rfl, rfl, rfl⟩
theorem fl_RX11_364 : FLp RX11 364 3 10 false (.int) := ⟨RX3, TX3, tyX3, rfl, inW3, tyX3_ok, nmX3, by decide, (inT_1 159 rfl rfl), rfl, rfl, rfl⟩
theorem fl_RX11_367 : FLp RX11 367 3 12 false (.int) := ⟨RX3, TX3, tyX3, rfl, inW3, tyX3_ok, nmX3, by decide, (inT_1 168 rfl rfl), rfl, rfl, rfl⟩
theorem fl_RX11_370 : FLp RX11 370 3 13 false (.int) := ⟨RX3, TX3, tyX3, rfl, inW3, tyX3_ok, nmX3, by decide, (inT_1 173 rfl rfl), rfl, rfl, rfl⟩
theorem fl_RX11_373 : FLp RX11 373 3 14 false (.int) := ⟨RX3, TX3, tyX3, rfl, inW3, tyX3_ok, nmX3, by decide, (inT_1 178 rfl rfl), rfl, rfl, rfl⟩
theorem fl_RX11_376 : FLp RX11 376 3 15 false (.int) := ⟨RX3, TX3, tyX3, rfl, inW3, tyX3_ok, nmX3, by decide, (inT_1 182 rfl rfl), rfl, rfl, rfl⟩
theorem fl_RX11_379 : FLp RX11 379 6 3 false (.int) := ⟨RX6, TX6, tyX6, rfl, inW6, tyX6_ok, nmX6, by decide, (inT_1 230 rfl rfl), rfl, rfl, rfl⟩
theorem fl_RX11_41 : FLp RX11 41 11 7 false (.object "LongTrain$Line") := ⟨RX11, TX11, tyX11, rfl, inW11, tyX11_ok, nmX11, by decide, (inT_3 22 rfl rfl), rfl, rfl, rfl⟩
theorem fl_RX11_48 : FLp RX11 48 11 8 false (.object "LongTrain$Plan") := ⟨RX11, TX11, tyX11, rfl, inW11, tyX11_ok, nmX11, by decide, (inT_3 23 rfl rfl), rfl, rfl, rfl⟩
theorem fl_RX11_55 : FLp RX11 55 11 9 true (.object "LongTrain$Free") := ⟨RX11, TX11, tyX11, rfl, inW11, tyX11_ok, nmX11, by decide, (inT_3 24 rfl rfl), rfl, rfl, rfl⟩
theorem fl_RX11_62 : FLp RX11 62 11 10 true (.object "LongTrain$Lives") := ⟨RX11, TX11, tyX11, rfl, inW11, tyX11_ok, nmX11, by decide, (inT_3 25 rfl rfl), rfl, rfl, rfl⟩
theorem fl_RX11_69 : FLp RX11 69 11 11 true (.object "LongTrain$Judge") := ⟨RX11, TX11, tyX11, rfl, inW11, tyX11_ok, nmX11, by decide, (inT_3 26 rfl rfl), rfl, rfl, rfl⟩
theorem fl_RX11_76 : FLp RX11 76 11 12 true (.object "LongTrain$Train") := ⟨RX11, TX11, tyX11, rfl, inW11, tyX11_ok, nmX11, by decide, (inT_3 27 rfl rfl), rfl, rfl, rfl⟩
theorem fl_RX11_80 : FLp RX11 80 11 1 false (.int) := ⟨RX11, TX11, tyX11, rfl, inW11, tyX11_ok, nmX11, by decide, (inT_3 16 rfl rfl), rfl, rfl, rfl⟩
theorem fl_RX11_9 : FLp RX11 9 11 0 true (.array .int) := ⟨RX11, TX11, tyX11, rfl, inW11, tyX11_ok, nmX11, by decide, (inT_3 15 rfl rfl), rfl, rfl, rfl⟩
theorem fl_RX11_96 : FLp RX11 96 4 0 true (.object "LongTrain$Reader") := ⟨RX4, TX4, tyX4, rfl, inW4, tyX4_ok, nmX4, by decide, (inT_1 82 rfl rfl), rfl, rfl, rfl⟩
theorem fl_RX11_99 : FLp RX11 99 7 8 false (.int) := ⟨RX7, TX7, tyX7, rfl, inW7, tyX7_ok, nmX7, by decide, (inT_1 57 rfl rfl), rfl, rfl, rfl⟩
theorem fl_RX12_1 : FLp RX12 1 12 0 false (.int) := ⟨RX12, TX12, tyX12, rfl, inW12, tyX12_ok, nmX12, by decide, (inT_6 229 rfl rfl), rfl, rfl, rfl⟩
theorem fl_RX12_101 : FLp RX12 101 12 48 true (.array .boolean) := ⟨RX12, TX12, tyX12, rfl, inW12, tyX12_ok, nmX12, by decide, (inT_7 37 rfl rfl), rfl, rfl, rfl⟩
theorem fl_RX12_14 : FLp RX12 14 12 1 true (.array .byte) := ⟨RX12, TX12, tyX12, rfl, inW12, tyX12_ok, nmX12, by decide, (inT_6 230 rfl rfl), rfl, rfl, rfl⟩
theorem fl_RX12_144 : FLp RX12 144 12 12 false (.int) := ⟨RX12, TX12, tyX12, rfl, inW12, tyX12_ok, nmX12, by decide, (inT_7 1 rfl rfl), rfl, rfl, rfl⟩
theorem fl_RX12_147 : FLp RX12 147 12 13 false (.int) := ⟨RX12, TX12, tyX12, rfl, inW12, tyX12_ok, nmX12, by decide, (inT_7 2 rfl rfl), rfl, rfl, rfl⟩
theorem fl_RX12_150 : FLp RX12 150 12 11 false (.int) := ⟨RX12, TX12, tyX12, rfl, inW12, tyX12_ok, nmX12, by decide, (inT_7 0 rfl rfl), rfl, rfl, rfl⟩
theorem fl_RX12_160 : FLp RX12 160 12 14 false (.int) := ⟨RX12, TX12, tyX12, rfl, inW12, tyX12_ok, nmX12, by decide, (inT_7 3 rfl rfl), rfl, rfl, rfl⟩
theorem fl_RX12_163 : FLp RX12 163 12 17 false (.long) := ⟨RX12, TX12, tyX12, rfl, inW12, tyX12_ok, nmX12, by decide, (inT_7 6 rfl rfl), rfl, rfl, rfl⟩
theorem fl_RX12_167 : FLp RX12 167 12 15 false (.int) := ⟨RX12, TX12, tyX12, rfl, inW12, tyX12_ok, nmX12, by decide, (inT_7 4 rfl rfl), rfl, rfl, rfl⟩
theorem fl_RX12_170 : FLp RX12 170 12 16 false (.int) := ⟨RX12, TX12, tyX12, rfl, inW12, tyX12_ok, nmX12, by decide, (inT_7 5 rfl rfl), rfl, rfl, rfl⟩
theorem fl_RX12_18 : FLp RX12 18 12 3 false (.int) := ⟨RX12, TX12, tyX12, rfl, inW12, tyX12_ok, nmX12, by decide, (inT_6 232 rfl rfl), rfl, rfl, rfl⟩
theorem fl_RX12_186 : FLp RX12 186 12 18 false (.int) := ⟨RX12, TX12, tyX12, rfl, inW12, tyX12_ok, nmX12, by decide, (inT_7 7 rfl rfl), rfl, rfl, rfl⟩
theorem fl_RX12_21 : FLp RX12 21 12 4 false (.int) := ⟨RX12, TX12, tyX12, rfl, inW12, tyX12_ok, nmX12, by decide, (inT_6 233 rfl rfl), rfl, rfl, rfl⟩
theorem fl_RX12_226 : FLp RX12 226 12 21 false (.int) := ⟨RX12, TX12, tyX12, rfl, inW12, tyX12_ok, nmX12, by decide, (inT_7 10 rfl rfl), rfl, rfl, rfl⟩
theorem fl_RX12_232 : FLp RX12 232 12 20 false (.int) := ⟨RX12, TX12, tyX12, rfl, inW12, tyX12_ok, nmX12, by decide, (inT_7 9 rfl rfl), rfl, rfl, rfl⟩
theorem fl_RX12_24 : FLp RX12 24 12 5 false (.int) := ⟨RX12, TX12, tyX12, rfl, inW12, tyX12_ok, nmX12, by decide, (inT_6 234 rfl rfl), rfl, rfl, rfl⟩
theorem fl_RX12_241 : FLp RX12 241 12 19 false (.int) := ⟨RX12, TX12, tyX12, rfl, inW12, tyX12_ok, nmX12, by decide, (inT_7 8 rfl rfl), rfl, rfl, rfl⟩
theorem fl_RX12_270 : FLp RX12 270 12 27 false (.int) := ⟨RX12, TX12, tyX12, rfl, inW12, tyX12_ok, nmX12, by decide, (inT_7 16 rfl rfl), rfl, rfl, rfl⟩
theorem fl_RX12_279 : FLp RX12 279 12 28 false (.int) := ⟨RX12, TX12, tyX12, rfl, inW12, tyX12_ok, nmX12, by decide, (inT_7 17 rfl rfl), rfl, rfl, rfl⟩
theorem fl_RX12_326 : FLp RX12 326 12 32 false (.int) := ⟨RX12, TX12, tyX12, rfl, inW12, tyX12_ok, nmX12, by decide, (inT_7 21 rfl rfl), rfl, rfl, rfl⟩
theorem fl_RX12_33 : FLp RX12 33 12 6 true (.array .int) := ⟨RX12, TX12, tyX12, rfl, inW12, tyX12_ok, nmX12, by decide, (inT_6 235 rfl rfl), rfl, rfl, rfl⟩
theorem fl_RX12_342 : FLp RX12 342 12 33 false (.int) := ⟨RX12, TX12, tyX12, rfl, inW12, tyX12_ok, nmX12, by decide, (inT_7 22 rfl rfl), rfl, rfl, rfl⟩
theorem fl_RX12_37 : FLp RX12 37 12 7 true (.array .int) := ⟨RX12, TX12, tyX12, rfl, inW12, tyX12_ok, nmX12, by decide, (inT_6 236 rfl rfl), rfl, rfl, rfl⟩
theorem fl_RX12_373 : FLp RX12 373 12 39 false (.int) := ⟨RX12, TX12, tyX12, rfl, inW12, tyX12_ok, nmX12, by decide, (inT_7 28 rfl rfl), rfl, rfl, rfl⟩
theorem fl_RX12_376 : FLp RX12 376 12 40 false (.int) := ⟨RX12, TX12, tyX12, rfl, inW12, tyX12_ok, nmX12, by decide, (inT_7 29 rfl rfl), rfl, rfl, rfl⟩
theorem fl_RX12_385 : FLp RX12 385 12 41 false (.int) := ⟨RX12, TX12, tyX12, rfl, inW12, tyX12_ok, nmX12, by decide, (inT_7 30 rfl rfl), rfl, rfl, rfl⟩
theorem fl_RX12_394 : FLp RX12 394 12 44 false (.boolean) := ⟨RX12, TX12, tyX12, rfl, inW12, tyX12_ok, nmX12, by decide, (inT_7 33 rfl rfl), rfl, rfl, rfl⟩
theorem fl_RX12_398 : FLp RX12 398 12 45 false (.int) := ⟨RX12, TX12, tyX12, rfl, inW12, tyX12_ok, nmX12, by decide, (inT_7 34 rfl rfl), rfl, rfl, rfl⟩
theorem fl_RX12_40 : FLp RX12 40 12 8 true (.array .int) := ⟨RX12, TX12, tyX12, rfl, inW12, tyX12_ok, nmX12, by decide, (inT_6 237 rfl rfl), rfl, rfl, rfl⟩
theorem fl_RX12_43 : FLp RX12 43 12 9 true (.array .long) := ⟨RX12, TX12, tyX12, rfl, inW12, tyX12_ok, nmX12, by decide, (inT_6 238 rfl rfl), rfl, rfl, rfl⟩
theorem fl_RX12_47 : FLp RX12 47 12 10 true (.array .long) := ⟨RX12, TX12, tyX12, rfl, inW12, tyX12_ok, nmX12, by decide, (inT_6 239 rfl rfl), rfl, rfl, rfl⟩
theorem fl_RX12_50 : FLp RX12 50 12 22 true (.array .int) := ⟨RX12, TX12, tyX12, rfl, inW12, tyX12_ok, nmX12, by decide, (inT_7 11 rfl rfl), rfl, rfl, rfl⟩
theorem fl_RX12_53 : FLp RX12 53 12 23 true (.array .int) := ⟨RX12, TX12, tyX12, rfl, inW12, tyX12_ok, nmX12, by decide, (inT_7 12 rfl rfl), rfl, rfl, rfl⟩
theorem fl_RX12_56 : FLp RX12 56 12 24 true (.array .int) := ⟨RX12, TX12, tyX12, rfl, inW12, tyX12_ok, nmX12, by decide, (inT_7 13 rfl rfl), rfl, rfl, rfl⟩
theorem fl_RX12_59 : FLp RX12 59 12 25 true (.array .int) := ⟨RX12, TX12, tyX12, rfl, inW12, tyX12_ok, nmX12, by decide, (inT_7 14 rfl rfl), rfl, rfl, rfl⟩
theorem fl_RX12_62 : FLp RX12 62 12 26 true (.array .int) := ⟨RX12, TX12, tyX12, rfl, inW12, tyX12_ok, nmX12, by decide, (inT_7 15 rfl rfl), rfl, rfl, rfl⟩
theorem fl_RX12_65 : FLp RX12 65 12 29 true (.array .int) := ⟨RX12, TX12, tyX12, rfl, inW12, tyX12_ok, nmX12, by decide, (inT_7 18 rfl rfl), rfl, rfl, rfl⟩
theorem fl_RX12_68 : FLp RX12 68 12 30 true (.array .int) := ⟨RX12, TX12, tyX12, rfl, inW12, tyX12_ok, nmX12, by decide, (inT_7 19 rfl rfl), rfl, rfl, rfl⟩
theorem fl_RX12_7 : FLp RX12 7 12 2 false (.int) := ⟨RX12, TX12, tyX12, rfl, inW12, tyX12_ok, nmX12, by decide, (inT_6 231 rfl rfl), rfl, rfl, rfl⟩
theorem fl_RX12_71 : FLp RX12 71 12 31 true (.array .int) := ⟨RX12, TX12, tyX12, rfl, inW12, tyX12_ok, nmX12, by decide, (inT_7 20 rfl rfl), rfl, rfl, rfl⟩
theorem fl_RX12_74 : FLp RX12 74 12 34 true (.array .int) := ⟨RX12, TX12, tyX12, rfl, inW12, tyX12_ok, nmX12, by decide, (inT_7 23 rfl rfl), rfl, rfl, rfl⟩
theorem fl_RX12_77 : FLp RX12 77 12 35 true (.array .int) := ⟨RX12, TX12, tyX12, rfl, inW12, tyX12_ok, nmX12, by decide, (inT_7 24 rfl rfl), rfl, rfl, rfl⟩
theorem fl_RX12_80 : FLp RX12 80 12 36 true (.array .int) := ⟨RX12, TX12, tyX12, rfl, inW12, tyX12_ok, nmX12, by decide, (inT_7 25 rfl rfl), rfl, rfl, rfl⟩
theorem fl_RX12_83 : FLp RX12 83 12 37 true (.array .int) := ⟨RX12, TX12, tyX12, rfl, inW12, tyX12_ok, nmX12, by decide, (inT_7 26 rfl rfl), rfl, rfl, rfl⟩
theorem fl_RX12_86 : FLp RX12 86 12 38 false (.int) := ⟨RX12, TX12, tyX12, rfl, inW12, tyX12_ok, nmX12, by decide, (inT_7 27 rfl rfl), rfl, rfl, rfl⟩
theorem fl_RX12_89 : FLp RX12 89 12 42 true (.array .int) := ⟨RX12, TX12, tyX12, rfl, inW12, tyX12_ok, nmX12, by decide, (inT_7 31 rfl rfl), rfl, rfl, rfl⟩
theorem fl_RX12_92 : FLp RX12 92 12 43 true (.array .int) := ⟨RX12, TX12, tyX12, rfl, inW12, tyX12_ok, nmX12, by decide, (inT_7 32 rfl rfl), rfl, rfl, rfl⟩
theorem fl_RX12_95 : FLp RX12 95 12 46 true (.array .int) := ⟨RX12, TX12, tyX12, rfl, inW12, tyX12_ok, nmX12, by decide, (inT_7 35 rfl rfl), rfl, rfl, rfl⟩
theorem fl_RX12_98 : FLp RX12 98 12 47 true (.array .long) := ⟨RX12, TX12, tyX12, rfl, inW12, tyX12_ok, nmX12, by decide, (inT_7 36 rfl rfl), rfl, rfl, rfl⟩
theorem fl_RX2_102 : FLp RX2 102 10 2 false (.int) := ⟨RX10, TX10, tyX10, rfl, inW10, tyX10_ok, nmX10, by decide, (inT_2 112 rfl rfl), rfl, rfl, rfl⟩
theorem fl_RX2_15 : FLp RX2 15 2 2 false (.int) := ⟨RX2, TX2, tyX2, rfl, inW2, tyX2_ok, nmX2, by decide, (inT_3 2 rfl rfl), rfl, rfl, rfl⟩
theorem fl_RX2_19 : FLp RX2 19 2 3 false (.int) := ⟨RX2, TX2, tyX2, rfl, inW2, tyX2_ok, nmX2, by decide, (inT_3 3 rfl rfl), rfl, rfl, rfl⟩
theorem fl_RX2_22 : FLp RX2 22 6 3 false (.int) := ⟨RX6, TX6, tyX6, rfl, inW6, tyX6_ok, nmX6, by decide, (inT_1 229 rfl rfl), rfl, rfl, rfl⟩
theorem fl_RX2_27 : FLp RX2 27 6 0 true (.array .int) := ⟨RX6, TX6, tyX6, rfl, inW6, tyX6_ok, nmX6, by decide, (inT_1 223 rfl rfl), rfl, rfl, rfl⟩
theorem fl_RX2_30 : FLp RX2 30 6 1 true (.array .int) := ⟨RX6, TX6, tyX6, rfl, inW6, tyX6_ok, nmX6, by decide, (inT_1 225 rfl rfl), rfl, rfl, rfl⟩
theorem fl_RX2_33 : FLp RX2 33 6 2 true (.array .int) := ⟨RX6, TX6, tyX6, rfl, inW6, tyX6_ok, nmX6, by decide, (inT_1 227 rfl rfl), rfl, rfl, rfl⟩
theorem fl_RX2_40 : FLp RX2 40 2 1 false (.boolean) := ⟨RX2, TX2, tyX2, rfl, inW2, tyX2_ok, nmX2, by decide, (inT_3 0 rfl rfl), rfl, rfl, rfl⟩
theorem fl_RX2_44 : FLp RX2 44 10 0 true (.object "LongTrain$Row") := ⟨RX10, TX10, tyX10, rfl, inW10, tyX10_ok, nmX10, by decide, (inT_2 106 rfl rfl), rfl, rfl, rfl⟩
theorem fl_RX2_50 : FLp RX2 50 8 10 false (.int) := ⟨RX8, TX8, tyX8, rfl, inW8, tyX8_ok, nmX8, by decide, (inT_2 46 rfl rfl), rfl, rfl, rfl⟩
theorem fl_RX2_55 : FLp RX2 55 8 8 false (.int) := ⟨RX8, TX8, tyX8, rfl, inW8, tyX8_ok, nmX8, by decide, (inT_2 35 rfl rfl), rfl, rfl, rfl⟩
theorem fl_RX2_56 : FLp RX2 56 10 1 true (.object "LongTrain$Halves") := ⟨RX10, TX10, tyX10, rfl, inW10, tyX10_ok, nmX10, by decide, (inT_2 109 rfl rfl), rfl, rfl, rfl⟩
theorem fl_RX2_60 : FLp RX2 60 1 5 false (.int) := ⟨RX1, TX1, tyX1, rfl, inW1, tyX1_ok, nmX1, by decide, (inT_2 90 rfl rfl), rfl, rfl, rfl⟩
theorem fl_RX2_9 : FLp RX2 9 2 0 true (.array .int) := ⟨RX2, TX2, tyX2, rfl, inW2, tyX2_ok, nmX2, by decide, (inT_2 238 rfl rfl), rfl, rfl, rfl⟩
theorem fl_RX3_15 : FLp RX3 15 3 2 true (.array .int) := ⟨RX3, TX3, tyX3, rfl, inW3, tyX3_ok, nmX3, by decide, (inT_1 128 rfl rfl), rfl, rfl, rfl⟩
theorem fl_RX3_18 : FLp RX3 18 3 4 true (.array .int) := ⟨RX3, TX3, tyX3, rfl, inW3, tyX3_ok, nmX3, by decide, (inT_1 136 rfl rfl), rfl, rfl, rfl⟩
theorem fl_RX3_21 : FLp RX3 21 3 6 true (.array .int) := ⟨RX3, TX3, tyX3, rfl, inW3, tyX3_ok, nmX3, by decide, (inT_1 142 rfl rfl), rfl, rfl, rfl⟩
theorem fl_RX3_24 : FLp RX3 24 3 8 true (.array .int) := ⟨RX3, TX3, tyX3, rfl, inW3, tyX3_ok, nmX3, by decide, (inT_1 148 rfl rfl), rfl, rfl, rfl⟩
theorem fl_RX3_30 : FLp RX3 30 3 1 false (.int) := ⟨RX3, TX3, tyX3, rfl, inW3, tyX3_ok, nmX3, by decide, (inT_1 122 rfl rfl), rfl, rfl, rfl⟩
theorem fl_RX3_34 : FLp RX3 34 3 3 false (.int) := ⟨RX3, TX3, tyX3, rfl, inW3, tyX3_ok, nmX3, by decide, (inT_1 131 rfl rfl), rfl, rfl, rfl⟩
theorem fl_RX3_37 : FLp RX3 37 3 5 false (.int) := ⟨RX3, TX3, tyX3, rfl, inW3, tyX3_ok, nmX3, by decide, (inT_1 139 rfl rfl), rfl, rfl, rfl⟩
theorem fl_RX3_40 : FLp RX3 40 3 7 false (.int) := ⟨RX3, TX3, tyX3, rfl, inW3, tyX3_ok, nmX3, by decide, (inT_1 145 rfl rfl), rfl, rfl, rfl⟩
theorem fl_RX3_43 : FLp RX3 43 3 9 false (.int) := ⟨RX3, TX3, tyX3, rfl, inW3, tyX3_ok, nmX3, by decide, (inT_1 151 rfl rfl), rfl, rfl, rfl⟩
theorem fl_RX3_46 : FLp RX3 46 3 10 false (.int) := ⟨RX3, TX3, tyX3, rfl, inW3, tyX3_ok, nmX3, by decide, (inT_1 155 rfl rfl), rfl, rfl, rfl⟩
theorem fl_RX3_49 : FLp RX3 49 3 11 false (.int) := ⟨RX3, TX3, tyX3, rfl, inW3, tyX3_ok, nmX3, by decide, (inT_1 160 rfl rfl), rfl, rfl, rfl⟩
theorem fl_RX3_52 : FLp RX3 52 3 12 false (.int) := ⟨RX3, TX3, tyX3, rfl, inW3, tyX3_ok, nmX3, by decide, (inT_1 164 rfl rfl), rfl, rfl, rfl⟩
theorem fl_RX3_55 : FLp RX3 55 3 13 false (.int) := ⟨RX3, TX3, tyX3, rfl, inW3, tyX3_ok, nmX3, by decide, (inT_1 169 rfl rfl), rfl, rfl, rfl⟩
theorem fl_RX3_58 : FLp RX3 58 3 14 false (.int) := ⟨RX3, TX3, tyX3, rfl, inW3, tyX3_ok, nmX3, by decide, (inT_1 175 rfl rfl), rfl, rfl, rfl⟩
theorem fl_RX3_61 : FLp RX3 61 3 15 false (.int) := ⟨RX3, TX3, tyX3, rfl, inW3, tyX3_ok, nmX3, by decide, (inT_1 179 rfl rfl), rfl, rfl, rfl⟩
theorem fl_RX3_9 : FLp RX3 9 3 0 true (.array .int) := ⟨RX3, TX3, tyX3, rfl, inW3, tyX3_ok, nmX3, by decide, (inT_1 120 rfl rfl), rfl, rfl, rfl⟩
theorem fl_RX4_104 : FLp RX4 104 7 6 false (.int) := ⟨RX7, TX7, tyX7, rfl, inW7, tyX7_ok, nmX7, by decide, (inT_1 51 rfl rfl), rfl, rfl, rfl⟩
theorem fl_RX4_110 : FLp RX4 110 3 1 false (.int) := ⟨RX3, TX3, tyX3, rfl, inW3, tyX3_ok, nmX3, by decide, (inT_1 126 rfl rfl), rfl, rfl, rfl⟩
theorem fl_RX4_113 : FLp RX4 113 3 0 true (.array .int) := ⟨RX3, TX3, tyX3, rfl, inW3, tyX3_ok, nmX3, by decide, (inT_1 121 rfl rfl), rfl, rfl, rfl⟩
theorem fl_RX4_117 : FLp RX4 117 3 3 false (.int) := ⟨RX3, TX3, tyX3, rfl, inW3, tyX3_ok, nmX3, by decide, (inT_1 134 rfl rfl), rfl, rfl, rfl⟩
theorem fl_RX4_12 : FLp RX4 12 4 0 true (.object "LongTrain$Reader") := ⟨RX4, TX4, tyX4, rfl, inW4, tyX4_ok, nmX4, by decide, (inT_1 81 rfl rfl), rfl, rfl, rfl⟩
theorem fl_RX4_123 : FLp RX4 123 7 7 false (.long) := ⟨RX7, TX7, tyX7, rfl, inW7, tyX7_ok, nmX7, by decide, (inT_1 55 rfl rfl), rfl, rfl, rfl⟩
theorem fl_RX4_130 : FLp RX4 130 3 2 true (.array .int) := ⟨RX3, TX3, tyX3, rfl, inW3, tyX3_ok, nmX3, by decide, (inT_1 129 rfl rfl), rfl, rfl, rfl⟩
theorem fl_RX4_133 : FLp RX4 133 3 5 false (.int) := ⟨RX3, TX3, tyX3, rfl, inW3, tyX3_ok, nmX3, by decide, (inT_1 140 rfl rfl), rfl, rfl, rfl⟩
theorem fl_RX4_136 : FLp RX4 136 3 4 true (.array .int) := ⟨RX3, TX3, tyX3, rfl, inW3, tyX3_ok, nmX3, by decide, (inT_1 137 rfl rfl), rfl, rfl, rfl⟩
theorem fl_RX4_139 : FLp RX4 139 3 7 false (.int) := ⟨RX3, TX3, tyX3, rfl, inW3, tyX3_ok, nmX3, by decide, (inT_1 146 rfl rfl), rfl, rfl, rfl⟩
theorem fl_RX4_142 : FLp RX4 142 3 6 true (.array .int) := ⟨RX3, TX3, tyX3, rfl, inW3, tyX3_ok, nmX3, by decide, (inT_1 143 rfl rfl), rfl, rfl, rfl⟩
theorem fl_RX4_158 : FLp RX4 158 3 10 false (.int) := ⟨RX3, TX3, tyX3, rfl, inW3, tyX3_ok, nmX3, by decide, (inT_1 158 rfl rfl), rfl, rfl, rfl⟩
theorem fl_RX4_161 : FLp RX4 161 3 11 false (.int) := ⟨RX3, TX3, tyX3, rfl, inW3, tyX3_ok, nmX3, by decide, (inT_1 161 rfl rfl), rfl, rfl, rfl⟩
theorem fl_RX4_164 : FLp RX4 164 3 12 false (.int) := ⟨RX3, TX3, tyX3, rfl, inW3, tyX3_ok, nmX3, by decide, (inT_1 167 rfl rfl), rfl, rfl, rfl⟩
theorem fl_RX4_167 : FLp RX4 167 3 13 false (.int) := ⟨RX3, TX3, tyX3, rfl, inW3, tyX3_ok, nmX3, by decide, (inT_1 172 rfl rfl), rfl, rfl, rfl⟩
theorem fl_RX4_170 : FLp RX4 170 3 14 false (.int) := ⟨RX3, TX3, tyX3, rfl, inW3, tyX3_ok, nmX3, by decide, (inT_1 177 rfl rfl), rfl, rfl, rfl⟩
theorem fl_RX4_173 : FLp RX4 173 3 15 false (.int) := ⟨RX3, TX3, tyX3, rfl, inW3, tyX3_ok, nmX3, by decide, (inT_1 180 rfl rfl), rfl, rfl, rfl⟩
theorem fl_RX4_179 : FLp RX4 179 3 8 true (.array .int) := ⟨RX3, TX3, tyX3, rfl, inW3, tyX3_ok, nmX3, by decide, (inT_1 150 rfl rfl), rfl, rfl, rfl⟩
theorem fl_RX4_18 : FLp RX4 18 4 1 true (.array .long) := ⟨RX4, TX4, tyX4, rfl, inW4, tyX4_ok, nmX4, by decide, (inT_1 83 rfl rfl), rfl, rfl, rfl⟩
theorem fl_RX4_182 : FLp RX4 182 3 9 false (.int) := ⟨RX3, TX3, tyX3, rfl, inW3, tyX3_ok, nmX3, by decide, (inT_1 153 rfl rfl), rfl, rfl, rfl⟩
theorem fl_RX4_22 : FLp RX4 22 4 2 true (.array .long) := ⟨RX4, TX4, tyX4, rfl, inW4, tyX4_ok, nmX4, by decide, (inT_1 84 rfl rfl), rfl, rfl, rfl⟩
theorem fl_RX4_29 : FLp RX4 29 4 3 false (.object "LongTrain$Line") := ⟨RX4, TX4, tyX4, rfl, inW4, tyX4_ok, nmX4, by decide, (inT_1 85 rfl rfl), rfl, rfl, rfl⟩
theorem fl_RX4_38 : FLp RX4 38 4 4 false (.int) := ⟨RX4, TX4, tyX4, rfl, inW4, tyX4_ok, nmX4, by decide, (inT_1 86 rfl rfl), rfl, rfl, rfl⟩
theorem fl_RX4_42 : FLp RX4 42 4 5 false (.int) := ⟨RX4, TX4, tyX4, rfl, inW4, tyX4_ok, nmX4, by decide, (inT_1 87 rfl rfl), rfl, rfl, rfl⟩
theorem fl_RX4_97 : FLp RX4 97 7 4 false (.int) := ⟨RX7, TX7, tyX7, rfl, inW7, tyX7_ok, nmX7, by decide, (inT_1 48 rfl rfl), rfl, rfl, rfl⟩
theorem fl_RX5_105 : FLp RX5 105 5 4 false (.int) := ⟨RX5, TX5, tyX5, rfl, inW5, tyX5_ok, nmX5, by decide, (inT_2 199 rfl rfl), rfl, rfl, rfl⟩
theorem fl_RX5_108 : FLp RX5 108 5 3 false (.int) := ⟨RX5, TX5, tyX5, rfl, inW5, tyX5_ok, nmX5, by decide, (inT_2 197 rfl rfl), rfl, rfl, rfl⟩
theorem fl_RX5_111 : FLp RX5 111 5 8 false (.int) := ⟨RX5, TX5, tyX5, rfl, inW5, tyX5_ok, nmX5, by decide, (inT_2 203 rfl rfl), rfl, rfl, rfl⟩
theorem fl_RX5_12 : FLp RX5 12 5 0 true (.array (.object "LongTrain$Row")) := ⟨RX5, TX5, tyX5, rfl, inW5, tyX5_ok, nmX5, by decide, (inT_2 193 rfl rfl), rfl, rfl, rfl⟩
theorem fl_RX5_136 : FLp RX5 136 8 11 false (.int) := ⟨RX8, TX8, tyX8, rfl, inW8, tyX8_ok, nmX8, by decide, (inT_2 50 rfl rfl), rfl, rfl, rfl⟩
theorem fl_RX5_146 : FLp RX5 146 8 9 false (.int) := ⟨RX8, TX8, tyX8, rfl, inW8, tyX8_ok, nmX8, by decide, (inT_2 41 rfl rfl), rfl, rfl, rfl⟩
theorem fl_RX5_149 : FLp RX5 149 8 1 true (.array .int) := ⟨RX8, TX8, tyX8, rfl, inW8, tyX8_ok, nmX8, by decide, (inT_2 16 rfl rfl), rfl, rfl, rfl⟩
theorem fl_RX5_156 : FLp RX5 156 8 2 true (.array .int) := ⟨RX8, TX8, tyX8, rfl, inW8, tyX8_ok, nmX8, by decide, (inT_2 19 rfl rfl), rfl, rfl, rfl⟩
theorem fl_RX5_159 : FLp RX5 159 3 12 false (.int) := ⟨RX3, TX3, tyX3, rfl, inW3, tyX3_ok, nmX3, by decide, (inT_1 165 rfl rfl), rfl, rfl, rfl⟩
theorem fl_RX5_162 : FLp RX5 162 8 4 true (.array .int) := ⟨RX8, TX8, tyX8, rfl, inW8, tyX8_ok, nmX8, by decide, (inT_2 25 rfl rfl), rfl, rfl, rfl⟩
theorem fl_RX5_178 : FLp RX5 178 5 11 false (.int) := ⟨RX5, TX5, tyX5, rfl, inW5, tyX5_ok, nmX5, by decide, (inT_2 206 rfl rfl), rfl, rfl, rfl⟩
theorem fl_RX5_18 : FLp RX5 18 5 1 true (.array .int) := ⟨RX5, TX5, tyX5, rfl, inW5, tyX5_ok, nmX5, by decide, (inT_2 194 rfl rfl), rfl, rfl, rfl⟩
theorem fl_RX5_199 : FLp RX5 199 8 7 true (.array .int) := ⟨RX8, TX8, tyX8, rfl, inW8, tyX8_ok, nmX8, by decide, (inT_2 31 rfl rfl), rfl, rfl, rfl⟩
theorem fl_RX5_22 : FLp RX5 22 5 2 true (.array .int) := ⟨RX5, TX5, tyX5, rfl, inW5, tyX5_ok, nmX5, by decide, (inT_2 195 rfl rfl), rfl, rfl, rfl⟩
theorem fl_RX5_25 : FLp RX5 25 5 6 true (.object "LongTrain$Row") := ⟨RX5, TX5, tyX5, rfl, inW5, tyX5_ok, nmX5, by decide, (inT_2 201 rfl rfl), rfl, rfl, rfl⟩
theorem fl_RX5_29 : FLp RX5 29 5 7 true (.array .int) := ⟨RX5, TX5, tyX5, rfl, inW5, tyX5_ok, nmX5, by decide, (inT_2 202 rfl rfl), rfl, rfl, rfl⟩
theorem fl_RX5_32 : FLp RX5 32 5 9 true (.array .int) := ⟨RX5, TX5, tyX5, rfl, inW5, tyX5_ok, nmX5, by decide, (inT_2 204 rfl rfl), rfl, rfl, rfl⟩
theorem fl_RX5_35 : FLp RX5 35 5 10 true (.array .int) := ⟨RX5, TX5, tyX5, rfl, inW5, tyX5_ok, nmX5, by decide, (inT_2 205 rfl rfl), rfl, rfl, rfl⟩
theorem fl_RX5_38 : FLp RX5 38 8 10 false (.int) := ⟨RX8, TX8, tyX8, rfl, inW8, tyX8_ok, nmX8, by decide, (inT_2 43 rfl rfl), rfl, rfl, rfl⟩
theorem fl_RX5_46 : FLp RX5 46 3 14 false (.int) := ⟨RX3, TX3, tyX3, rfl, inW3, tyX3_ok, nmX3, by decide, (inT_1 174 rfl rfl), rfl, rfl, rfl⟩
theorem fl_RX5_55 : FLp RX5 55 8 8 false (.int) := ⟨RX8, TX8, tyX8, rfl, inW8, tyX8_ok, nmX8, by decide, (inT_2 33 rfl rfl), rfl, rfl, rfl⟩
theorem fl_RX5_66 : FLp RX5 66 3 1 false (.int) := ⟨RX3, TX3, tyX3, rfl, inW3, tyX3_ok, nmX3, by decide, (inT_1 123 rfl rfl), rfl, rfl, rfl⟩
theorem fl_RX5_87 : FLp RX5 87 8 3 true (.array .int) := ⟨RX8, TX8, tyX8, rfl, inW8, tyX8_ok, nmX8, by decide, (inT_2 22 rfl rfl), rfl, rfl, rfl⟩
theorem fl_RX5_90 : FLp RX5 90 5 5 false (.int) := ⟨RX5, TX5, tyX5, rfl, inW5, tyX5_ok, nmX5, by decide, (inT_2 200 rfl rfl), rfl, rfl, rfl⟩
theorem fl_RX5_93 : FLp RX5 93 3 3 false (.int) := ⟨RX3, TX3, tyX3, rfl, inW3, tyX3_ok, nmX3, by decide, (inT_1 133 rfl rfl), rfl, rfl, rfl⟩
theorem fl_RX6_11 : FLp RX6 11 6 0 true (.array .int) := ⟨RX6, TX6, tyX6, rfl, inW6, tyX6_ok, nmX6, by decide, (inT_1 222 rfl rfl), rfl, rfl, rfl⟩
theorem fl_RX6_15 : FLp RX6 15 6 1 true (.array .int) := ⟨RX6, TX6, tyX6, rfl, inW6, tyX6_ok, nmX6, by decide, (inT_1 224 rfl rfl), rfl, rfl, rfl⟩
theorem fl_RX6_18 : FLp RX6 18 6 2 true (.array .int) := ⟨RX6, TX6, tyX6, rfl, inW6, tyX6_ok, nmX6, by decide, (inT_1 226 rfl rfl), rfl, rfl, rfl⟩
theorem fl_RX6_21 : FLp RX6 21 6 3 false (.int) := ⟨RX6, TX6, tyX6, rfl, inW6, tyX6_ok, nmX6, by decide, (inT_1 228 rfl rfl), rfl, rfl, rfl⟩
theorem fl_RX6_67 : FLp RX6 67 7 6 false (.int) := ⟨RX7, TX7, tyX7, rfl, inW7, tyX7_ok, nmX7, by decide, (inT_1 52 rfl rfl), rfl, rfl, rfl⟩
theorem fl_RX7_21 : FLp RX7 21 7 1 false (.int) := ⟨RX7, TX7, tyX7, rfl, inW7, tyX7_ok, nmX7, by decide, (inT_1 45 rfl rfl), rfl, rfl, rfl⟩
theorem fl_RX7_25 : FLp RX7 25 7 2 false (.int) := ⟨RX7, TX7, tyX7, rfl, inW7, tyX7_ok, nmX7, by decide, (inT_1 46 rfl rfl), rfl, rfl, rfl⟩
theorem fl_RX7_28 : FLp RX7 28 7 3 false (.int) := ⟨RX7, TX7, tyX7, rfl, inW7, tyX7_ok, nmX7, by decide, (inT_1 47 rfl rfl), rfl, rfl, rfl⟩
theorem fl_RX7_31 : FLp RX7 31 7 8 false (.int) := ⟨RX7, TX7, tyX7, rfl, inW7, tyX7_ok, nmX7, by decide, (inT_1 56 rfl rfl), rfl, rfl, rfl⟩
theorem fl_RX7_34 : FLp RX7 34 7 9 false (.int) := ⟨RX7, TX7, tyX7, rfl, inW7, tyX7_ok, nmX7, by decide, (inT_1 58 rfl rfl), rfl, rfl, rfl⟩
theorem fl_RX7_37 : FLp RX7 37 7 5 false (.int) := ⟨RX7, TX7, tyX7, rfl, inW7, tyX7_ok, nmX7, by decide, (inT_1 50 rfl rfl), rfl, rfl, rfl⟩
theorem fl_RX7_40 : FLp RX7 40 7 4 false (.int) := ⟨RX7, TX7, tyX7, rfl, inW7, tyX7_ok, nmX7, by decide, (inT_1 49 rfl rfl), rfl, rfl, rfl⟩
theorem fl_RX7_53 : FLp RX7 53 7 7 false (.long) := ⟨RX7, TX7, tyX7, rfl, inW7, tyX7_ok, nmX7, by decide, (inT_1 54 rfl rfl), rfl, rfl, rfl⟩
theorem fl_RX7_57 : FLp RX7 57 7 6 false (.int) := ⟨RX7, TX7, tyX7, rfl, inW7, tyX7_ok, nmX7, by decide, (inT_1 53 rfl rfl), rfl, rfl, rfl⟩
theorem fl_RX7_9 : FLp RX7 9 7 0 false (.array .int) := ⟨RX7, TX7, tyX7, rfl, inW7, tyX7_ok, nmX7, by decide, (inT_1 44 rfl rfl), rfl, rfl, rfl⟩
theorem fl_RX8_113 : FLp RX8 113 3 12 false (.int) := ⟨RX3, TX3, tyX3, rfl, inW3, tyX3_ok, nmX3, by decide, (inT_1 166 rfl rfl), rfl, rfl, rfl⟩
theorem fl_RX8_116 : FLp RX8 116 3 11 false (.int) := ⟨RX3, TX3, tyX3, rfl, inW3, tyX3_ok, nmX3, by decide, (inT_1 162 rfl rfl), rfl, rfl, rfl⟩
theorem fl_RX8_15 : FLp RX8 15 8 1 true (.array .int) := ⟨RX8, TX8, tyX8, rfl, inW8, tyX8_ok, nmX8, by decide, (inT_2 15 rfl rfl), rfl, rfl, rfl⟩
theorem fl_RX8_18 : FLp RX8 18 8 2 true (.array .int) := ⟨RX8, TX8, tyX8, rfl, inW8, tyX8_ok, nmX8, by decide, (inT_2 18 rfl rfl), rfl, rfl, rfl⟩
theorem fl_RX8_21 : FLp RX8 21 8 3 true (.array .int) := ⟨RX8, TX8, tyX8, rfl, inW8, tyX8_ok, nmX8, by decide, (inT_2 21 rfl rfl), rfl, rfl, rfl⟩
theorem fl_RX8_24 : FLp RX8 24 8 4 true (.array .int) := ⟨RX8, TX8, tyX8, rfl, inW8, tyX8_ok, nmX8, by decide, (inT_2 24 rfl rfl), rfl, rfl, rfl⟩
theorem fl_RX8_27 : FLp RX8 27 8 5 true (.array .int) := ⟨RX8, TX8, tyX8, rfl, inW8, tyX8_ok, nmX8, by decide, (inT_2 27 rfl rfl), rfl, rfl, rfl⟩
theorem fl_RX8_30 : FLp RX8 30 8 6 true (.array .int) := ⟨RX8, TX8, tyX8, rfl, inW8, tyX8_ok, nmX8, by decide, (inT_2 28 rfl rfl), rfl, rfl, rfl⟩
theorem fl_RX8_33 : FLp RX8 33 8 7 true (.array .int) := ⟨RX8, TX8, tyX8, rfl, inW8, tyX8_ok, nmX8, by decide, (inT_2 29 rfl rfl), rfl, rfl, rfl⟩
theorem fl_RX8_36 : FLp RX8 36 8 8 false (.int) := ⟨RX8, TX8, tyX8, rfl, inW8, tyX8_ok, nmX8, by decide, (inT_2 32 rfl rfl), rfl, rfl, rfl⟩
theorem fl_RX8_40 : FLp RX8 40 8 9 false (.int) := ⟨RX8, TX8, tyX8, rfl, inW8, tyX8_ok, nmX8, by decide, (inT_2 39 rfl rfl), rfl, rfl, rfl⟩
theorem fl_RX8_43 : FLp RX8 43 8 10 false (.int) := ⟨RX8, TX8, tyX8, rfl, inW8, tyX8_ok, nmX8, by decide, (inT_2 44 rfl rfl), rfl, rfl, rfl⟩
theorem fl_RX8_46 : FLp RX8 46 8 11 false (.int) := ⟨RX8, TX8, tyX8, rfl, inW8, tyX8_ok, nmX8, by decide, (inT_2 49 rfl rfl), rfl, rfl, rfl⟩
theorem fl_RX8_49 : FLp RX8 49 3 3 false (.int) := ⟨RX3, TX3, tyX3, rfl, inW3, tyX3_ok, nmX3, by decide, (inT_1 132 rfl rfl), rfl, rfl, rfl⟩
theorem fl_RX8_58 : FLp RX8 58 3 9 false (.int) := ⟨RX3, TX3, tyX3, rfl, inW3, tyX3_ok, nmX3, by decide, (inT_1 152 rfl rfl), rfl, rfl, rfl⟩
theorem fl_RX8_61 : FLp RX8 61 3 8 true (.array .int) := ⟨RX3, TX3, tyX3, rfl, inW3, tyX3_ok, nmX3, by decide, (inT_1 149 rfl rfl), rfl, rfl, rfl⟩
theorem fl_RX8_9 : FLp RX8 9 8 0 true (.array .int) := ⟨RX8, TX8, tyX8, rfl, inW8, tyX8_ok, nmX8, by decide, (inT_2 12 rfl rfl), rfl, rfl, rfl⟩
theorem fl_RX9_10 : FLp RX9 10 9 0 false (.object "LongTrain$Line") := ⟨RX9, TX9, tyX9, rfl, inW9, tyX9_ok, nmX9, by decide, (inT_2 121 rfl rfl), rfl, rfl, rfl⟩
theorem fl_RX9_19 : FLp RX9 19 9 1 false (.object "LongTrain$Plan") := ⟨RX9, TX9, tyX9, rfl, inW9, tyX9_ok, nmX9, by decide, (inT_2 123 rfl rfl), rfl, rfl, rfl⟩
theorem fl_RX9_26 : FLp RX9 26 9 2 true (.object "LongTrain$Train") := ⟨RX9, TX9, tyX9, rfl, inW9, tyX9_ok, nmX9, by decide, (inT_2 125 rfl rfl), rfl, rfl, rfl⟩
theorem cst_RX12_105 : Cond.constantLong RX12 105 (495740481637) ∈ UU := (inT_6 209 rfl rfl)
theorem cst_RX12_107 : Cond.constantLong RX12 107 (1751215220) ∈ UU := (inT_6 210 rfl rfl)
theorem cst_RX12_109 : Cond.constantLong RX12 109 (1819242352) ∈ UU := (inT_6 211 rfl rfl)
theorem cst_RX12_111 : Cond.constantLong RX12 111 (512735276910) ∈ UU := (inT_6 212 rfl rfl)
theorem cst_RX12_113 : Cond.constantLong RX12 113 (1633969267) ∈ UU := (inT_6 213 rfl rfl)
theorem cst_RX12_115 : Cond.constantLong RX12 115 (111524855770725) ∈ UU := (inT_6 214 rfl rfl)
theorem cst_RX12_117 : Cond.constantLong RX12 117 (7501154) ∈ UU := (inT_6 215 rfl rfl)
theorem cst_RX12_119 : Cond.constantLong RX12 119 (1935765092) ∈ UU := (inT_6 216 rfl rfl)
theorem cst_RX12_121 : Cond.constantLong RX12 121 (2003132786) ∈ UU := (inT_6 217 rfl rfl)
theorem cst_RX12_123 : Cond.constantLong RX12 123 (2002873451) ∈ UU := (inT_6 218 rfl rfl)
theorem cst_RX12_125 : Cond.constantLong RX12 125 (500135192942) ∈ UU := (inT_6 219 rfl rfl)
theorem cst_RX12_127 : Cond.constantLong RX12 127 (26479) ∈ UU := (inT_6 220 rfl rfl)
theorem cst_RX12_129 : Cond.constantLong RX12 129 (1751477360) ∈ UU := (inT_6 221 rfl rfl)
theorem cst_RX12_131 : Cond.constantLong RX12 131 (7300710) ∈ UU := (inT_6 222 rfl rfl)
theorem cst_RX12_133 : Cond.constantLong RX12 133 (6518132) ∈ UU := (inT_6 223 rfl rfl)
theorem cst_RX12_135 : Cond.constantLong RX12 135 (1919251316) ∈ UU := (inT_6 224 rfl rfl)
theorem cst_RX7_60 : Cond.constantLong RX7 60 (32) ∈ UU := (inT_3 101 rfl rfl)
theorem cst_RX7_62 : Cond.constantLong RX7 62 (97) ∈ UU := (inT_3 102 rfl rfl)
theorem cst_RX11_247 : Cond.constant RX11 247 (99999) ∈ UU := (inT_4 160 rfl rfl)
theorem cst_RX12_297 : Cond.constant RX12 297 (99999) ∈ UU := (inT_8 85 rfl rfl)
theorem cst_RX12_360 : Cond.constant RX12 360 (1000000000) ∈ UU := (inT_8 198 rfl rfl)
theorem cst_RX12_401 : Cond.constant RX12 401 (1103515245) ∈ UU := (inT_9 39 rfl rfl)
theorem cst_RX5_181 : Cond.constant RX5 181 (1103515245) ∈ UU := (inT_5 238 rfl rfl)
theorem ml_RX0_124 : Cond.methodLink RX0 124 Lib.Math.min.name ∈ UU := (inT_5 89 rfl rfl)
theorem ml_RX0_80 : Cond.methodLink RX0 80 Lib.Math.max.name ∈ UU := (inT_4 188 rfl rfl)
theorem ml_RX11_248 : Cond.methodLink RX11 248 Lib.Math.min.name ∈ UU := (inT_4 137 rfl rfl)
theorem ml_RX11_253 : Cond.methodLink RX11 253 Lib.Math.max.name ∈ UU := (inT_4 138 rfl rfl)
theorem ml_RX5_172 : Cond.methodLink RX5 172 Lib.Math.min.name ∈ UU := (inT_5 32 rfl rfl)
theorem ml_RX5_202 : Cond.methodLink RX5 202 Lib.Math.max.name ∈ UU := (inT_6 12 rfl rfl)
theorem ml_RX7_15 : Cond.methodLink RX7 15 Lib.Math.min.name ∈ UU := (inT_3 83 rfl rfl)
theorem ml_RX8_87 : Cond.methodLink RX8 87 Lib.Math.max.name ∈ UU := (inT_4 116 rfl rfl)
theorem ml_RX8_93 : Cond.methodLink RX8 93 Lib.Math.min.name ∈ UU := (inT_4 119 rfl rfl)
theorem in_yX11_isRunUp : Cond.initialized yX11_isRunUp.cls ∈ UU := (inT_1 1 rfl rfl)
theorem co_yX11_isRunUp : Cond.code yX11_isRunUp cX11_isRunUp 1 (some .boolean) ∈ UU := (inT_4 159 rfl rfl)
theorem pm_yX11_isRunUp : yX11_isRunUp.cls ≠ "java/lang/invoke/MethodHandle" ∧ yX11_isRunUp.cls ≠ "java/lang/invoke/VarHandle" ∧ (parseMethodDescriptor yX11_isRunUp.desc).map (fun d => d.parameters.length) = some 1 := by decide +kernel
theorem ml_RX11_269 : MLp RX11 269 yX11_isRunUp cX11_isRunUp 1 (some .boolean) 1 := ⟨(inT_4 157 rfl rfl), in_yX11_isRunUp, co_yX11_isRunUp, pm_yX11_isRunUp⟩
theorem ms_yX11_isRunUp : Cond.static yX11_isRunUp ∈ UU := (inT_4 158 rfl rfl)
theorem in_yX11_isLongTrain : Cond.initialized yX11_isLongTrain.cls ∈ UU := (inT_1 1 rfl rfl)
theorem co_yX11_isLongTrain : Cond.code yX11_isLongTrain cX11_isLongTrain 1 (some .boolean) ∈ UU := (inT_5 141 rfl rfl)
theorem pm_yX11_isLongTrain : yX11_isLongTrain.cls ≠ "java/lang/invoke/MethodHandle" ∧ yX11_isLongTrain.cls ≠ "java/lang/invoke/VarHandle" ∧ (parseMethodDescriptor yX11_isLongTrain.desc).map (fun d => d.parameters.length) = some 1 := by decide +kernel
theorem ml_RX11_331 : MLp RX11 331 yX11_isLongTrain cX11_isLongTrain 1 (some .boolean) 1 := ⟨(inT_5 139 rfl rfl), in_yX11_isLongTrain, co_yX11_isLongTrain, pm_yX11_isLongTrain⟩
theorem ms_yX11_isLongTrain : Cond.static yX11_isLongTrain ∈ UU := (inT_5 140 rfl rfl)
theorem in_yX12_isSmall : Cond.initialized yX12_isSmall.cls ∈ UU := (inT_1 13 rfl rfl)
theorem co_yX12_isSmall : Cond.code yX12_isSmall cX12_isSmall 1 (some .boolean) ∈ UU := (inT_7 156 rfl rfl)
theorem pm_yX12_isSmall : yX12_isSmall.cls ≠ "java/lang/invoke/MethodHandle" ∧ yX12_isSmall.cls ≠ "java/lang/invoke/VarHandle" ∧ (parseMethodDescriptor yX12_isSmall.desc).map (fun d => d.parameters.length) = some 1 := by decide +kernel
theorem ml_RX12_153 : MLp RX12 153 yX12_isSmall cX12_isSmall 1 (some .boolean) 1 := ⟨(inT_7 154 rfl rfl), in_yX12_isSmall, co_yX12_isSmall, pm_yX12_isSmall⟩
theorem ms_yX12_isSmall : Cond.static yX12_isSmall ∈ UU := (inT_7 155 rfl rfl)
theorem in_yX12_isDigit : Cond.initialized yX12_isDigit.cls ∈ UU := (inT_1 13 rfl rfl)
theorem co_yX12_isDigit : Cond.code yX12_isDigit cX12_isDigit 1 (some .boolean) ∈ UU := (inT_7 159 rfl rfl)
theorem pm_yX12_isDigit : yX12_isDigit.cls ≠ "java/lang/invoke/MethodHandle" ∧ yX12_isDigit.cls ≠ "java/lang/invoke/VarHandle" ∧ (parseMethodDescriptor yX12_isDigit.desc).map (fun d => d.parameters.length) = some 1 := by decide +kernel
theorem ml_RX12_157 : MLp RX12 157 yX12_isDigit cX12_isDigit 1 (some .boolean) 1 := ⟨(inT_7 157 rfl rfl), in_yX12_isDigit, co_yX12_isDigit, pm_yX12_isDigit⟩
theorem ms_yX12_isDigit : Cond.static yX12_isDigit ∈ UU := (inT_7 158 rfl rfl)
theorem in_yX12_isIn : Cond.initialized yX12_isIn.cls ∈ UU := (inT_1 13 rfl rfl)
theorem co_yX12_isIn : Cond.code yX12_isIn cX12_isIn 3 (some .boolean) ∈ UU := (inT_7 186 rfl rfl)
theorem pm_yX12_isIn : yX12_isIn.cls ≠ "java/lang/invoke/MethodHandle" ∧ yX12_isIn.cls ≠ "java/lang/invoke/VarHandle" ∧ (parseMethodDescriptor yX12_isIn.desc).map (fun d => d.parameters.length) = some 3 := by decide +kernel
theorem ml_RX12_182 : MLp RX12 182 yX12_isIn cX12_isIn 3 (some .boolean) 3 := ⟨(inT_7 184 rfl rfl), in_yX12_isIn, co_yX12_isIn, pm_yX12_isIn⟩
theorem ms_yX12_isIn : Cond.static yX12_isIn ∈ UU := (inT_7 185 rfl rfl)
theorem in_yX12_has : Cond.initialized yX12_has.cls ∈ UU := (inT_1 13 rfl rfl)
theorem co_yX12_has : Cond.code yX12_has cX12_has 2 (some .boolean) ∈ UU := (inT_7 217 rfl rfl)
theorem pm_yX12_has : yX12_has.cls ≠ "java/lang/invoke/MethodHandle" ∧ yX12_has.cls ≠ "java/lang/invoke/VarHandle" ∧ (parseMethodDescriptor yX12_has.desc).map (fun d => d.parameters.length) = some 2 := by decide +kernel
theorem ml_RX12_229 : MLp RX12 229 yX12_has cX12_has 2 (some .boolean) 2 := ⟨(inT_7 215 rfl rfl), in_yX12_has, co_yX12_has, pm_yX12_has⟩
theorem ms_yX12_has : Cond.static yX12_has ∈ UU := (inT_7 216 rfl rfl)
theorem in_yX12_isRun : Cond.initialized yX12_isRun.cls ∈ UU := (inT_1 13 rfl rfl)
theorem co_yX12_isRun : Cond.code yX12_isRun cX12_isRun 1 (some .boolean) ∈ UU := (inT_8 84 rfl rfl)
theorem pm_yX12_isRun : yX12_isRun.cls ≠ "java/lang/invoke/MethodHandle" ∧ yX12_isRun.cls ≠ "java/lang/invoke/VarHandle" ∧ (parseMethodDescriptor yX12_isRun.desc).map (fun d => d.parameters.length) = some 1 := by decide +kernel
theorem ml_RX12_301 : MLp RX12 301 yX12_isRun cX12_isRun 1 (some .boolean) 1 := ⟨(inT_8 82 rfl rfl), in_yX12_isRun, co_yX12_isRun, pm_yX12_isRun⟩
theorem ms_yX12_isRun : Cond.static yX12_isRun ∈ UU := (inT_8 83 rfl rfl)
theorem in_yX2_runHelp : Cond.initialized yX2_runHelp.cls ∈ UU := (inT_1 12 rfl rfl)
theorem co_yX2_runHelp : Cond.code yX2_runHelp cX2_runHelp 3 (some .int) ∈ UU := (inT_5 191 rfl rfl)
theorem pm_yX2_runHelp : yX2_runHelp.cls ≠ "java/lang/invoke/MethodHandle" ∧ yX2_runHelp.cls ≠ "java/lang/invoke/VarHandle" ∧ (parseMethodDescriptor yX2_runHelp.desc).map (fun d => d.parameters.length) = some 3 := by decide +kernel
theorem ml_RX2_67 : MLp RX2 67 yX2_runHelp cX2_runHelp 3 (some .int) 3 := ⟨(inT_5 189 rfl rfl), in_yX2_runHelp, co_yX2_runHelp, pm_yX2_runHelp⟩
theorem ms_yX2_runHelp : Cond.static yX2_runHelp ∈ UU := (inT_5 190 rfl rfl)
theorem in_yX2_runOff : Cond.initialized yX2_runOff.cls ∈ UU := (inT_1 12 rfl rfl)
theorem co_yX2_runOff : Cond.code yX2_runOff cX2_runOff 1 (some .int) ∈ UU := (inT_5 196 rfl rfl)
theorem pm_yX2_runOff : yX2_runOff.cls ≠ "java/lang/invoke/MethodHandle" ∧ yX2_runOff.cls ≠ "java/lang/invoke/VarHandle" ∧ (parseMethodDescriptor yX2_runOff.desc).map (fun d => d.parameters.length) = some 1 := by decide +kernel
theorem ml_RX2_71 : MLp RX2 71 yX2_runOff cX2_runOff 1 (some .int) 1 := ⟨(inT_5 194 rfl rfl), in_yX2_runOff, co_yX2_runOff, pm_yX2_runOff⟩
theorem ms_yX2_runOff : Cond.static yX2_runOff ∈ UU := (inT_5 195 rfl rfl)
theorem in_yX2_runCut : Cond.initialized yX2_runCut.cls ∈ UU := (inT_1 12 rfl rfl)
theorem co_yX2_runCut : Cond.code yX2_runCut cX2_runCut 2 (some .int) ∈ UU := (inT_5 203 rfl rfl)
theorem pm_yX2_runCut : yX2_runCut.cls ≠ "java/lang/invoke/MethodHandle" ∧ yX2_runCut.cls ≠ "java/lang/invoke/VarHandle" ∧ (parseMethodDescriptor yX2_runCut.desc).map (fun d => d.parameters.length) = some 2 := by decide +kernel
theorem ml_RX2_75 : MLp RX2 75 yX2_runCut cX2_runCut 2 (some .int) 2 := ⟨(inT_5 201 rfl rfl), in_yX2_runCut, co_yX2_runCut, pm_yX2_runCut⟩
theorem ms_yX2_runCut : Cond.static yX2_runCut ∈ UU := (inT_5 202 rfl rfl)
theorem in_yX2_runRest : Cond.initialized yX2_runRest.cls ∈ UU := (inT_1 12 rfl rfl)
theorem co_yX2_runRest : Cond.code yX2_runRest cX2_runRest 1 (some .int) ∈ UU := (inT_5 207 rfl rfl)
theorem pm_yX2_runRest : yX2_runRest.cls ≠ "java/lang/invoke/MethodHandle" ∧ yX2_runRest.cls ≠ "java/lang/invoke/VarHandle" ∧ (parseMethodDescriptor yX2_runRest.desc).map (fun d => d.parameters.length) = some 1 := by decide +kernel
theorem ml_RX2_79 : MLp RX2 79 yX2_runRest cX2_runRest 1 (some .int) 1 := ⟨(inT_5 205 rfl rfl), in_yX2_runRest, co_yX2_runRest, pm_yX2_runRest⟩
theorem ms_yX2_runRest : Cond.static yX2_runRest ∈ UU := (inT_5 206 rfl rfl)
theorem in_yX4_indexOf : Cond.initialized yX4_indexOf.cls ∈ UU := (inT_1 2 rfl rfl)
theorem co_yX4_indexOf : Cond.code yX4_indexOf cX4_indexOf 5 (some .int) ∈ UU := (inT_3 206 rfl rfl)
theorem pm_yX4_indexOf : yX4_indexOf.cls ≠ "java/lang/invoke/MethodHandle" ∧ yX4_indexOf.cls ≠ "java/lang/invoke/VarHandle" ∧ (parseMethodDescriptor yX4_indexOf.desc).map (fun d => d.parameters.length) = some 3 := by decide +kernel
theorem ml_RX4_185 : MLp RX4 185 yX4_indexOf cX4_indexOf 5 (some .int) 3 := ⟨(inT_3 204 rfl rfl), in_yX4_indexOf, co_yX4_indexOf, pm_yX4_indexOf⟩
theorem ms_yX4_indexOf : Cond.static yX4_indexOf ∈ UU := (inT_3 205 rfl rfl)
theorem in_yX5_holdsAt : Cond.initialized yX5_holdsAt.cls ∈ UU := (inT_1 11 rfl rfl)
theorem co_yX5_holdsAt : Cond.code yX5_holdsAt cX5_holdsAt 3 (some .boolean) ∈ UU := (inT_4 228 rfl rfl)
theorem pm_yX5_holdsAt : yX5_holdsAt.cls ≠ "java/lang/invoke/MethodHandle" ∧ yX5_holdsAt.cls ≠ "java/lang/invoke/VarHandle" ∧ (parseMethodDescriptor yX5_holdsAt.desc).map (fun d => d.parameters.length) = some 3 := by decide +kernel
theorem ml_RX5_69 : MLp RX5 69 yX5_holdsAt cX5_holdsAt 3 (some .boolean) 3 := ⟨(inT_4 226 rfl rfl), in_yX5_holdsAt, co_yX5_holdsAt, pm_yX5_holdsAt⟩
theorem ms_yX5_holdsAt : Cond.static yX5_holdsAt ∈ UU := (inT_4 227 rfl rfl)
theorem in_yX5_placeBy : Cond.initialized yX5_placeBy.cls ∈ UU := (inT_1 11 rfl rfl)
theorem co_yX5_placeBy : Cond.code yX5_placeBy cX5_placeBy 4 (some .int) ∈ UU := (inT_4 236 rfl rfl)
theorem pm_yX5_placeBy : yX5_placeBy.cls ≠ "java/lang/invoke/MethodHandle" ∧ yX5_placeBy.cls ≠ "java/lang/invoke/VarHandle" ∧ (parseMethodDescriptor yX5_placeBy.desc).map (fun d => d.parameters.length) = some 3 := by decide +kernel
theorem ml_RX5_79 : MLp RX5 79 yX5_placeBy cX5_placeBy 4 (some .int) 3 := ⟨(inT_4 234 rfl rfl), in_yX5_placeBy, co_yX5_placeBy, pm_yX5_placeBy⟩
theorem ms_yX5_placeBy : Cond.static yX5_placeBy ∈ UU := (inT_4 235 rfl rfl)
theorem in_yX7_isLetter : Cond.initialized yX7_isLetter.cls ∈ UU := (inT_1 3 rfl rfl)
theorem co_yX7_isLetter : Cond.code yX7_isLetter cX7_isLetter 1 (some .boolean) ∈ UU := (inT_3 93 rfl rfl)
theorem pm_yX7_isLetter : yX7_isLetter.cls ≠ "java/lang/invoke/MethodHandle" ∧ yX7_isLetter.cls ≠ "java/lang/invoke/VarHandle" ∧ (parseMethodDescriptor yX7_isLetter.desc).map (fun d => d.parameters.length) = some 1 := by decide +kernel
theorem ml_RX7_43 : MLp RX7 43 yX7_isLetter cX7_isLetter 1 (some .boolean) 1 := ⟨(inT_3 91 rfl rfl), in_yX7_isLetter, co_yX7_isLetter, pm_yX7_isLetter⟩
theorem ms_yX7_isLetter : Cond.static yX7_isLetter ∈ UU := (inT_3 92 rfl rfl)
theorem in_yX7_isDigit : Cond.initialized yX7_isDigit.cls ∈ UU := (inT_1 3 rfl rfl)
theorem co_yX7_isDigit : Cond.code yX7_isDigit cX7_isDigit 1 (some .boolean) ∈ UU := (inT_3 96 rfl rfl)
theorem pm_yX7_isDigit : yX7_isDigit.cls ≠ "java/lang/invoke/MethodHandle" ∧ yX7_isDigit.cls ≠ "java/lang/invoke/VarHandle" ∧ (parseMethodDescriptor yX7_isDigit.desc).map (fun d => d.parameters.length) = some 1 := by decide +kernel
theorem ml_RX7_47 : MLp RX7 47 yX7_isDigit cX7_isDigit 1 (some .boolean) 1 := ⟨(inT_3 94 rfl rfl), in_yX7_isDigit, co_yX7_isDigit, pm_yX7_isDigit⟩
theorem ms_yX7_isDigit : Cond.static yX7_isDigit ∈ UU := (inT_3 95 rfl rfl)
theorem in_yX12_loop : Cond.initialized yX12_loop.cls ∈ UU := (inT_1 13 rfl rfl)
theorem co_yX12_loop : Cond.code yX12_loop cX12_loop 3 (some .int) ∈ UU := (inT_8 33 rfl rfl)
theorem pm_yX12_loop : yX12_loop.cls ≠ "java/lang/invoke/MethodHandle" ∧ yX12_loop.cls ≠ "java/lang/invoke/VarHandle" ∧ (parseMethodDescriptor yX12_loop.desc).map (fun d => d.parameters.length) = some 2 := by decide +kernel
theorem ml_RL_102 : MLp RL 102 yX12_loop cX12_loop 3 (some .int) 2 := ⟨(inT_8 30 rfl rfl), in_yX12_loop, co_yX12_loop, pm_yX12_loop⟩
theorem mv_yX12_loop : MVp yX12_loop := ⟨(inT_8 31 rfl rfl), (inT_8 32 rfl rfl)⟩
theorem in_yX11_climb : Cond.initialized yX11_climb.cls ∈ UU := (inT_1 1 rfl rfl)
theorem co_yX11_climb : Cond.code yX11_climb cX11_climb 4 (some .int) ∈ UU := (inT_4 152 rfl rfl)
theorem pm_yX11_climb : yX11_climb.cls ≠ "java/lang/invoke/MethodHandle" ∧ yX11_climb.cls ≠ "java/lang/invoke/VarHandle" ∧ (parseMethodDescriptor yX11_climb.desc).map (fun d => d.parameters.length) = some 3 := by decide +kernel
theorem ml_RL_103 : MLp RL 103 yX11_climb cX11_climb 4 (some .int) 3 := ⟨(inT_4 149 rfl rfl), in_yX11_climb, co_yX11_climb, pm_yX11_climb⟩
theorem mv_yX11_climb : MVp yX11_climb := ⟨(inT_4 150 rfl rfl), (inT_4 151 rfl rfl)⟩
theorem in_yX12_climb : Cond.initialized yX12_climb.cls ∈ UU := (inT_1 13 rfl rfl)
theorem co_yX12_climb : Cond.code yX12_climb cX12_climb 4 (some .int) ∈ UU := (inT_8 77 rfl rfl)
theorem pm_yX12_climb : yX12_climb.cls ≠ "java/lang/invoke/MethodHandle" ∧ yX12_climb.cls ≠ "java/lang/invoke/VarHandle" ∧ (parseMethodDescriptor yX12_climb.desc).map (fun d => d.parameters.length) = some 3 := by decide +kernel
theorem ml_RL_106 : MLp RL 106 yX12_climb cX12_climb 4 (some .int) 3 := ⟨(inT_8 74 rfl rfl), in_yX12_climb, co_yX12_climb, pm_yX12_climb⟩
theorem mv_yX12_climb : MVp yX12_climb := ⟨(inT_8 75 rfl rfl), (inT_8 76 rfl rfl)⟩
theorem in_yX11_needed : Cond.initialized yX11_needed.cls ∈ UU := (inT_1 1 rfl rfl)
theorem co_yX11_needed : Cond.code yX11_needed cX11_needed 3 (some .int) ∈ UU := (inT_4 183 rfl rfl)
theorem pm_yX11_needed : yX11_needed.cls ≠ "java/lang/invoke/MethodHandle" ∧ yX11_needed.cls ≠ "java/lang/invoke/VarHandle" ∧ (parseMethodDescriptor yX11_needed.desc).map (fun d => d.parameters.length) = some 2 := by decide +kernel
theorem ml_RL_107 : MLp RL 107 yX11_needed cX11_needed 3 (some .int) 2 := ⟨(inT_4 180 rfl rfl), in_yX11_needed, co_yX11_needed, pm_yX11_needed⟩
theorem mv_yX11_needed : MVp yX11_needed := ⟨(inT_4 181 rfl rfl), (inT_4 182 rfl rfl)⟩
theorem in_yX12_needed : Cond.initialized yX12_needed.cls ∈ UU := (inT_1 13 rfl rfl)
theorem co_yX12_needed : Cond.code yX12_needed cX12_needed 6 (some .int) ∈ UU := (inT_8 93 rfl rfl)
theorem pm_yX12_needed : yX12_needed.cls ≠ "java/lang/invoke/MethodHandle" ∧ yX12_needed.cls ≠ "java/lang/invoke/VarHandle" ∧ (parseMethodDescriptor yX12_needed.desc).map (fun d => d.parameters.length) = some 2 := by decide +kernel
theorem ml_RL_110 : MLp RL 110 yX12_needed cX12_needed 6 (some .int) 2 := ⟨(inT_8 90 rfl rfl), in_yX12_needed, co_yX12_needed, pm_yX12_needed⟩
theorem mv_yX12_needed : MVp yX12_needed := ⟨(inT_8 91 rfl rfl), (inT_8 92 rfl rfl)⟩
theorem in_yX11_sanded : Cond.initialized yX11_sanded.cls ∈ UU := (inT_1 1 rfl rfl)
theorem co_yX11_sanded : Cond.code yX11_sanded cX11_sanded 4 (some .int) ∈ UU := (inT_4 192 rfl rfl)
theorem pm_yX11_sanded : yX11_sanded.cls ≠ "java/lang/invoke/MethodHandle" ∧ yX11_sanded.cls ≠ "java/lang/invoke/VarHandle" ∧ (parseMethodDescriptor yX11_sanded.desc).map (fun d => d.parameters.length) = some 3 := by decide +kernel
theorem ml_RL_111 : MLp RL 111 yX11_sanded cX11_sanded 4 (some .int) 3 := ⟨(inT_4 189 rfl rfl), in_yX11_sanded, co_yX11_sanded, pm_yX11_sanded⟩
theorem mv_yX11_sanded : MVp yX11_sanded := ⟨(inT_4 190 rfl rfl), (inT_4 191 rfl rfl)⟩
theorem in_yX12_sanded : Cond.initialized yX12_sanded.cls ∈ UU := (inT_1 13 rfl rfl)
theorem co_yX12_sanded : Cond.code yX12_sanded cX12_sanded 5 (some .int) ∈ UU := (inT_8 97 rfl rfl)
theorem pm_yX12_sanded : yX12_sanded.cls ≠ "java/lang/invoke/MethodHandle" ∧ yX12_sanded.cls ≠ "java/lang/invoke/VarHandle" ∧ (parseMethodDescriptor yX12_sanded.desc).map (fun d => d.parameters.length) = some 3 := by decide +kernel
theorem ml_RL_114 : MLp RL 114 yX12_sanded cX12_sanded 5 (some .int) 3 := ⟨(inT_8 94 rfl rfl), in_yX12_sanded, co_yX12_sanded, pm_yX12_sanded⟩
theorem mv_yX12_sanded : MVp yX12_sanded := ⟨(inT_8 95 rfl rfl), (inT_8 96 rfl rfl)⟩
theorem in_yX11_helped : Cond.initialized yX11_helped.cls ∈ UU := (inT_1 1 rfl rfl)
theorem co_yX11_helped : Cond.code yX11_helped cX11_helped 5 (some .int) ∈ UU := (inT_4 200 rfl rfl)
theorem pm_yX11_helped : yX11_helped.cls ≠ "java/lang/invoke/MethodHandle" ∧ yX11_helped.cls ≠ "java/lang/invoke/VarHandle" ∧ (parseMethodDescriptor yX11_helped.desc).map (fun d => d.parameters.length) = some 4 := by decide +kernel
theorem ml_RL_115 : MLp RL 115 yX11_helped cX11_helped 5 (some .int) 4 := ⟨(inT_4 197 rfl rfl), in_yX11_helped, co_yX11_helped, pm_yX11_helped⟩
theorem mv_yX11_helped : MVp yX11_helped := ⟨(inT_4 198 rfl rfl), (inT_4 199 rfl rfl)⟩
theorem in_yX12_helped : Cond.initialized yX12_helped.cls ∈ UU := (inT_1 13 rfl rfl)
theorem co_yX12_helped : Cond.code yX12_helped cX12_helped 8 (some .int) ∈ UU := (inT_8 101 rfl rfl)
theorem pm_yX12_helped : yX12_helped.cls ≠ "java/lang/invoke/MethodHandle" ∧ yX12_helped.cls ≠ "java/lang/invoke/VarHandle" ∧ (parseMethodDescriptor yX12_helped.desc).map (fun d => d.parameters.length) = some 4 := by decide +kernel
theorem ml_RL_119 : MLp RL 119 yX12_helped cX12_helped 8 (some .int) 4 := ⟨(inT_8 98 rfl rfl), in_yX12_helped, co_yX12_helped, pm_yX12_helped⟩
theorem mv_yX12_helped : MVp yX12_helped := ⟨(inT_8 99 rfl rfl), (inT_8 100 rfl rfl)⟩
theorem in_yX11_lives : Cond.initialized yX11_lives.cls ∈ UU := (inT_1 1 rfl rfl)
theorem co_yX11_lives : Cond.code yX11_lives cX11_lives 2 (some .int) ∈ UU := (inT_4 220 rfl rfl)
theorem pm_yX11_lives : yX11_lives.cls ≠ "java/lang/invoke/MethodHandle" ∧ yX11_lives.cls ≠ "java/lang/invoke/VarHandle" ∧ (parseMethodDescriptor yX11_lives.desc).map (fun d => d.parameters.length) = some 1 := by decide +kernel
theorem ml_RL_120 : MLp RL 120 yX11_lives cX11_lives 2 (some .int) 1 := ⟨(inT_4 217 rfl rfl), in_yX11_lives, co_yX11_lives, pm_yX11_lives⟩
theorem mv_yX11_lives : MVp yX11_lives := ⟨(inT_4 218 rfl rfl), (inT_4 219 rfl rfl)⟩
theorem in_yX12_lives : Cond.initialized yX12_lives.cls ∈ UU := (inT_1 13 rfl rfl)
theorem co_yX12_lives : Cond.code yX12_lives cX12_lives 2 (some .int) ∈ UU := (inT_8 117 rfl rfl)
theorem pm_yX12_lives : yX12_lives.cls ≠ "java/lang/invoke/MethodHandle" ∧ yX12_lives.cls ≠ "java/lang/invoke/VarHandle" ∧ (parseMethodDescriptor yX12_lives.desc).map (fun d => d.parameters.length) = some 1 := by decide +kernel
theorem ml_RL_123 : MLp RL 123 yX12_lives cX12_lives 2 (some .int) 1 := ⟨(inT_8 114 rfl rfl), in_yX12_lives, co_yX12_lives, pm_yX12_lives⟩
theorem mv_yX12_lives : MVp yX12_lives := ⟨(inT_8 115 rfl rfl), (inT_8 116 rfl rfl)⟩
theorem in_yX11_longest : Cond.initialized yX11_longest.cls ∈ UU := (inT_1 1 rfl rfl)
theorem co_yX11_longest : Cond.code yX11_longest cX11_longest 1 (some .int) ∈ UU := (inT_5 1 rfl rfl)
theorem pm_yX11_longest : yX11_longest.cls ≠ "java/lang/invoke/MethodHandle" ∧ yX11_longest.cls ≠ "java/lang/invoke/VarHandle" ∧ (parseMethodDescriptor yX11_longest.desc).map (fun d => d.parameters.length) = some 0 := by decide +kernel
theorem ml_RL_124 : MLp RL 124 yX11_longest cX11_longest 1 (some .int) 0 := ⟨(inT_4 238 rfl rfl), in_yX11_longest, co_yX11_longest, pm_yX11_longest⟩
theorem mv_yX11_longest : MVp yX11_longest := ⟨(inT_4 239 rfl rfl), (inT_5 0 rfl rfl)⟩
theorem in_yX12_longest : Cond.initialized yX12_longest.cls ∈ UU := (inT_1 13 rfl rfl)
theorem co_yX12_longest : Cond.code yX12_longest cX12_longest 5 (some .int) ∈ UU := (inT_8 145 rfl rfl)
theorem pm_yX12_longest : yX12_longest.cls ≠ "java/lang/invoke/MethodHandle" ∧ yX12_longest.cls ≠ "java/lang/invoke/VarHandle" ∧ (parseMethodDescriptor yX12_longest.desc).map (fun d => d.parameters.length) = some 0 := by decide +kernel
theorem ml_RL_127 : MLp RL 127 yX12_longest cX12_longest 5 (some .int) 0 := ⟨(inT_8 142 rfl rfl), in_yX12_longest, co_yX12_longest, pm_yX12_longest⟩
theorem mv_yX12_longest : MVp yX12_longest := ⟨(inT_8 143 rfl rfl), (inT_8 144 rfl rfl)⟩
theorem in_yX11_placed : Cond.initialized yX11_placed.cls ∈ UU := (inT_1 1 rfl rfl)
theorem co_yX11_placed : Cond.code yX11_placed cX11_placed 2 (some .int) ∈ UU := (inT_5 47 rfl rfl)
theorem pm_yX11_placed : yX11_placed.cls ≠ "java/lang/invoke/MethodHandle" ∧ yX11_placed.cls ≠ "java/lang/invoke/VarHandle" ∧ (parseMethodDescriptor yX11_placed.desc).map (fun d => d.parameters.length) = some 1 := by decide +kernel
theorem ml_RL_128 : MLp RL 128 yX11_placed cX11_placed 2 (some .int) 1 := ⟨(inT_5 44 rfl rfl), in_yX11_placed, co_yX11_placed, pm_yX11_placed⟩
theorem mv_yX11_placed : MVp yX11_placed := ⟨(inT_5 45 rfl rfl), (inT_5 46 rfl rfl)⟩
theorem in_yX12_placed : Cond.initialized yX12_placed.cls ∈ UU := (inT_1 13 rfl rfl)
theorem co_yX12_placed : Cond.code yX12_placed cX12_placed 2 (some .int) ∈ UU := (inT_8 149 rfl rfl)
theorem pm_yX12_placed : yX12_placed.cls ≠ "java/lang/invoke/MethodHandle" ∧ yX12_placed.cls ≠ "java/lang/invoke/VarHandle" ∧ (parseMethodDescriptor yX12_placed.desc).map (fun d => d.parameters.length) = some 1 := by decide +kernel
theorem ml_RL_131 : MLp RL 131 yX12_placed cX12_placed 2 (some .int) 1 := ⟨(inT_8 146 rfl rfl), in_yX12_placed, co_yX12_placed, pm_yX12_placed⟩
theorem mv_yX12_placed : MVp yX12_placed := ⟨(inT_8 147 rfl rfl), (inT_8 148 rfl rfl)⟩
theorem in_yX11_platform : Cond.initialized yX11_platform.cls ∈ UU := (inT_1 1 rfl rfl)
theorem co_yX11_platform : Cond.code yX11_platform cX11_platform 2 (some .int) ∈ UU := (inT_5 51 rfl rfl)
theorem pm_yX11_platform : yX11_platform.cls ≠ "java/lang/invoke/MethodHandle" ∧ yX11_platform.cls ≠ "java/lang/invoke/VarHandle" ∧ (parseMethodDescriptor yX11_platform.desc).map (fun d => d.parameters.length) = some 1 := by decide +kernel
theorem ml_RL_132 : MLp RL 132 yX11_platform cX11_platform 2 (some .int) 1 := ⟨(inT_5 48 rfl rfl), in_yX11_platform, co_yX11_platform, pm_yX11_platform⟩
theorem mv_yX11_platform : MVp yX11_platform := ⟨(inT_5 49 rfl rfl), (inT_5 50 rfl rfl)⟩
theorem in_yX12_platform : Cond.initialized yX12_platform.cls ∈ UU := (inT_1 13 rfl rfl)
theorem co_yX12_platform : Cond.code yX12_platform cX12_platform 2 (some .int) ∈ UU := (inT_8 153 rfl rfl)
theorem pm_yX12_platform : yX12_platform.cls ≠ "java/lang/invoke/MethodHandle" ∧ yX12_platform.cls ≠ "java/lang/invoke/VarHandle" ∧ (parseMethodDescriptor yX12_platform.desc).map (fun d => d.parameters.length) = some 1 := by decide +kernel
theorem ml_RL_135 : MLp RL 135 yX12_platform cX12_platform 2 (some .int) 1 := ⟨(inT_8 150 rfl rfl), in_yX12_platform, co_yX12_platform, pm_yX12_platform⟩
theorem mv_yX12_platform : MVp yX12_platform := ⟨(inT_8 151 rfl rfl), (inT_8 152 rfl rfl)⟩
theorem in_yX11_cook : Cond.initialized yX11_cook.cls ∈ UU := (inT_1 1 rfl rfl)
theorem co_yX11_cook : Cond.code yX11_cook cX11_cook 4 (some .int) ∈ UU := (inT_5 68 rfl rfl)
theorem pm_yX11_cook : yX11_cook.cls ≠ "java/lang/invoke/MethodHandle" ∧ yX11_cook.cls ≠ "java/lang/invoke/VarHandle" ∧ (parseMethodDescriptor yX11_cook.desc).map (fun d => d.parameters.length) = some 3 := by decide +kernel
theorem ml_RL_136 : MLp RL 136 yX11_cook cX11_cook 4 (some .int) 3 := ⟨(inT_5 65 rfl rfl), in_yX11_cook, co_yX11_cook, pm_yX11_cook⟩
theorem mv_yX11_cook : MVp yX11_cook := ⟨(inT_5 66 rfl rfl), (inT_5 67 rfl rfl)⟩
theorem in_yX12_cook : Cond.initialized yX12_cook.cls ∈ UU := (inT_1 13 rfl rfl)
theorem co_yX12_cook : Cond.code yX12_cook cX12_cook 10 (some .int) ∈ UU := (inT_8 165 rfl rfl)
theorem pm_yX12_cook : yX12_cook.cls ≠ "java/lang/invoke/MethodHandle" ∧ yX12_cook.cls ≠ "java/lang/invoke/VarHandle" ∧ (parseMethodDescriptor yX12_cook.desc).map (fun d => d.parameters.length) = some 3 := by decide +kernel
theorem ml_RL_139 : MLp RL 139 yX12_cook cX12_cook 10 (some .int) 3 := ⟨(inT_8 162 rfl rfl), in_yX12_cook, co_yX12_cook, pm_yX12_cook⟩
theorem mv_yX12_cook : MVp yX12_cook := ⟨(inT_8 163 rfl rfl), (inT_8 164 rfl rfl)⟩
theorem in_yX11_back : Cond.initialized yX11_back.cls ∈ UU := (inT_1 1 rfl rfl)
theorem co_yX11_back : Cond.code yX11_back cX11_back 4 (some .int) ∈ UU := (inT_5 105 rfl rfl)
theorem pm_yX11_back : yX11_back.cls ≠ "java/lang/invoke/MethodHandle" ∧ yX11_back.cls ≠ "java/lang/invoke/VarHandle" ∧ (parseMethodDescriptor yX11_back.desc).map (fun d => d.parameters.length) = some 3 := by decide +kernel
theorem ml_RL_140 : MLp RL 140 yX11_back cX11_back 4 (some .int) 3 := ⟨(inT_5 102 rfl rfl), in_yX11_back, co_yX11_back, pm_yX11_back⟩
theorem mv_yX11_back : MVp yX11_back := ⟨(inT_5 103 rfl rfl), (inT_5 104 rfl rfl)⟩
theorem in_yX12_back : Cond.initialized yX12_back.cls ∈ UU := (inT_1 13 rfl rfl)
theorem co_yX12_back : Cond.code yX12_back cX12_back 10 (some .int) ∈ UU := (inT_8 181 rfl rfl)
theorem pm_yX12_back : yX12_back.cls ≠ "java/lang/invoke/MethodHandle" ∧ yX12_back.cls ≠ "java/lang/invoke/VarHandle" ∧ (parseMethodDescriptor yX12_back.desc).map (fun d => d.parameters.length) = some 3 := by decide +kernel
theorem ml_RL_143 : MLp RL 143 yX12_back cX12_back 10 (some .int) 3 := ⟨(inT_8 178 rfl rfl), in_yX12_back, co_yX12_back, pm_yX12_back⟩
theorem mv_yX12_back : MVp yX12_back := ⟨(inT_8 179 rfl rfl), (inT_8 180 rfl rfl)⟩
theorem in_yX11_room : Cond.initialized yX11_room.cls ∈ UU := (inT_1 1 rfl rfl)
theorem co_yX11_room : Cond.code yX11_room cX11_room 2 (some .int) ∈ UU := (inT_5 109 rfl rfl)
theorem pm_yX11_room : yX11_room.cls ≠ "java/lang/invoke/MethodHandle" ∧ yX11_room.cls ≠ "java/lang/invoke/VarHandle" ∧ (parseMethodDescriptor yX11_room.desc).map (fun d => d.parameters.length) = some 1 := by decide +kernel
theorem ml_RL_144 : MLp RL 144 yX11_room cX11_room 2 (some .int) 1 := ⟨(inT_5 106 rfl rfl), in_yX11_room, co_yX11_room, pm_yX11_room⟩
theorem mv_yX11_room : MVp yX11_room := ⟨(inT_5 107 rfl rfl), (inT_5 108 rfl rfl)⟩
theorem in_yX12_room : Cond.initialized yX12_room.cls ∈ UU := (inT_1 13 rfl rfl)
theorem co_yX12_room : Cond.code yX12_room cX12_room 2 (some .int) ∈ UU := (inT_8 161 rfl rfl)
theorem pm_yX12_room : yX12_room.cls ≠ "java/lang/invoke/MethodHandle" ∧ yX12_room.cls ≠ "java/lang/invoke/VarHandle" ∧ (parseMethodDescriptor yX12_room.desc).map (fun d => d.parameters.length) = some 1 := by decide +kernel
theorem ml_RL_147 : MLp RL 147 yX12_room cX12_room 2 (some .int) 1 := ⟨(inT_8 158 rfl rfl), in_yX12_room, co_yX12_room, pm_yX12_room⟩
theorem mv_yX12_room : MVp yX12_room := ⟨(inT_8 159 rfl rfl), (inT_8 160 rfl rfl)⟩
theorem in_yX11_loads : Cond.initialized yX11_loads.cls ∈ UU := (inT_1 1 rfl rfl)
theorem co_yX11_loads : Cond.code yX11_loads cX11_loads 3 (some .int) ∈ UU := (inT_5 117 rfl rfl)
theorem pm_yX11_loads : yX11_loads.cls ≠ "java/lang/invoke/MethodHandle" ∧ yX11_loads.cls ≠ "java/lang/invoke/VarHandle" ∧ (parseMethodDescriptor yX11_loads.desc).map (fun d => d.parameters.length) = some 0 := by decide +kernel
theorem ml_RL_148 : MLp RL 148 yX11_loads cX11_loads 3 (some .int) 0 := ⟨(inT_5 114 rfl rfl), in_yX11_loads, co_yX11_loads, pm_yX11_loads⟩
theorem mv_yX11_loads : MVp yX11_loads := ⟨(inT_5 115 rfl rfl), (inT_5 116 rfl rfl)⟩
theorem in_yX11_halt : Cond.initialized yX11_halt.cls ∈ UU := (inT_1 1 rfl rfl)
theorem co_yX11_halt : Cond.code yX11_halt cX11_halt 3 (some .int) ∈ UU := (inT_6 120 rfl rfl)
theorem pm_yX11_halt : yX11_halt.cls ≠ "java/lang/invoke/MethodHandle" ∧ yX11_halt.cls ≠ "java/lang/invoke/VarHandle" ∧ (parseMethodDescriptor yX11_halt.desc).map (fun d => d.parameters.length) = some 2 := by decide +kernel
theorem ml_RL_15 : MLp RL 15 yX11_halt cX11_halt 3 (some .int) 2 := ⟨(inT_6 117 rfl rfl), in_yX11_halt, co_yX11_halt, pm_yX11_halt⟩
theorem mv_yX11_halt : MVp yX11_halt := ⟨(inT_6 118 rfl rfl), (inT_6 119 rfl rfl)⟩
theorem in_yX12_loads : Cond.initialized yX12_loads.cls ∈ UU := (inT_1 13 rfl rfl)
theorem co_yX12_loads : Cond.code yX12_loads cX12_loads 6 (some .int) ∈ UU := (inT_8 185 rfl rfl)
theorem pm_yX12_loads : yX12_loads.cls ≠ "java/lang/invoke/MethodHandle" ∧ yX12_loads.cls ≠ "java/lang/invoke/VarHandle" ∧ (parseMethodDescriptor yX12_loads.desc).map (fun d => d.parameters.length) = some 0 := by decide +kernel
theorem ml_RL_151 : MLp RL 151 yX12_loads cX12_loads 6 (some .int) 0 := ⟨(inT_8 182 rfl rfl), in_yX12_loads, co_yX12_loads, pm_yX12_loads⟩
theorem mv_yX12_loads : MVp yX12_loads := ⟨(inT_8 183 rfl rfl), (inT_8 184 rfl rfl)⟩
theorem in_yX11_load : Cond.initialized yX11_load.cls ∈ UU := (inT_1 1 rfl rfl)
theorem co_yX11_load : Cond.code yX11_load cX11_load 2 (some .int) ∈ UU := (inT_5 134 rfl rfl)
theorem pm_yX11_load : yX11_load.cls ≠ "java/lang/invoke/MethodHandle" ∧ yX11_load.cls ≠ "java/lang/invoke/VarHandle" ∧ (parseMethodDescriptor yX11_load.desc).map (fun d => d.parameters.length) = some 1 := by decide +kernel
theorem ml_RL_152 : MLp RL 152 yX11_load cX11_load 2 (some .int) 1 := ⟨(inT_5 131 rfl rfl), in_yX11_load, co_yX11_load, pm_yX11_load⟩
theorem mv_yX11_load : MVp yX11_load := ⟨(inT_5 132 rfl rfl), (inT_5 133 rfl rfl)⟩
theorem in_yX12_load : Cond.initialized yX12_load.cls ∈ UU := (inT_1 13 rfl rfl)
theorem co_yX12_load : Cond.code yX12_load cX12_load 2 (some .int) ∈ UU := (inT_8 193 rfl rfl)
theorem pm_yX12_load : yX12_load.cls ≠ "java/lang/invoke/MethodHandle" ∧ yX12_load.cls ≠ "java/lang/invoke/VarHandle" ∧ (parseMethodDescriptor yX12_load.desc).map (fun d => d.parameters.length) = some 1 := by decide +kernel
theorem ml_RL_155 : MLp RL 155 yX12_load cX12_load 2 (some .int) 1 := ⟨(inT_8 190 rfl rfl), in_yX12_load, co_yX12_load, pm_yX12_load⟩
theorem mv_yX12_load : MVp yX12_load := ⟨(inT_8 191 rfl rfl), (inT_8 192 rfl rfl)⟩
theorem in_yX11_cross : Cond.initialized yX11_cross.cls ∈ UU := (inT_1 1 rfl rfl)
theorem co_yX11_cross : Cond.code yX11_cross cX11_cross 15 (some .int) ∈ UU := (inT_5 138 rfl rfl)
theorem pm_yX11_cross : yX11_cross.cls ≠ "java/lang/invoke/MethodHandle" ∧ yX11_cross.cls ≠ "java/lang/invoke/VarHandle" ∧ (parseMethodDescriptor yX11_cross.desc).map (fun d => d.parameters.length) = some 5 := by decide +kernel
theorem ml_RL_156 : MLp RL 156 yX11_cross cX11_cross 15 (some .int) 5 := ⟨(inT_5 135 rfl rfl), in_yX11_cross, co_yX11_cross, pm_yX11_cross⟩
theorem mv_yX11_cross : MVp yX11_cross := ⟨(inT_5 136 rfl rfl), (inT_5 137 rfl rfl)⟩
theorem in_yX12_cross : Cond.initialized yX12_cross.cls ∈ UU := (inT_1 13 rfl rfl)
theorem co_yX12_cross : Cond.code yX12_cross cX12_cross 13 (some .int) ∈ UU := (inT_8 197 rfl rfl)
theorem pm_yX12_cross : yX12_cross.cls ≠ "java/lang/invoke/MethodHandle" ∧ yX12_cross.cls ≠ "java/lang/invoke/VarHandle" ∧ (parseMethodDescriptor yX12_cross.desc).map (fun d => d.parameters.length) = some 5 := by decide +kernel
theorem ml_RL_159 : MLp RL 159 yX12_cross cX12_cross 13 (some .int) 5 := ⟨(inT_8 194 rfl rfl), in_yX12_cross, co_yX12_cross, pm_yX12_cross⟩
theorem mv_yX12_cross : MVp yX12_cross := ⟨(inT_8 195 rfl rfl), (inT_8 196 rfl rfl)⟩
theorem in_yX11_ring : Cond.initialized yX11_ring.cls ∈ UU := (inT_1 1 rfl rfl)
theorem co_yX11_ring : Cond.code yX11_ring cX11_ring 8 (some .int) ∈ UU := (inT_5 145 rfl rfl)
theorem pm_yX11_ring : yX11_ring.cls ≠ "java/lang/invoke/MethodHandle" ∧ yX11_ring.cls ≠ "java/lang/invoke/VarHandle" ∧ (parseMethodDescriptor yX11_ring.desc).map (fun d => d.parameters.length) = some 4 := by decide +kernel
theorem ml_RL_160 : MLp RL 160 yX11_ring cX11_ring 8 (some .int) 4 := ⟨(inT_5 142 rfl rfl), in_yX11_ring, co_yX11_ring, pm_yX11_ring⟩
theorem mv_yX11_ring : MVp yX11_ring := ⟨(inT_5 143 rfl rfl), (inT_5 144 rfl rfl)⟩
theorem in_yX12_ring : Cond.initialized yX12_ring.cls ∈ UU := (inT_1 13 rfl rfl)
theorem co_yX12_ring : Cond.code yX12_ring cX12_ring 7 (some .int) ∈ UU := (inT_8 202 rfl rfl)
theorem pm_yX12_ring : yX12_ring.cls ≠ "java/lang/invoke/MethodHandle" ∧ yX12_ring.cls ≠ "java/lang/invoke/VarHandle" ∧ (parseMethodDescriptor yX12_ring.desc).map (fun d => d.parameters.length) = some 4 := by decide +kernel
theorem ml_RL_163 : MLp RL 163 yX12_ring cX12_ring 7 (some .int) 4 := ⟨(inT_8 199 rfl rfl), in_yX12_ring, co_yX12_ring, pm_yX12_ring⟩
theorem mv_yX12_ring : MVp yX12_ring := ⟨(inT_8 200 rfl rfl), (inT_8 201 rfl rfl)⟩
theorem in_yX11_plan : Cond.initialized yX11_plan.cls ∈ UU := (inT_1 1 rfl rfl)
theorem co_yX11_plan : Cond.code yX11_plan cX11_plan 3 (some .int) ∈ UU := (inT_5 154 rfl rfl)
theorem pm_yX11_plan : yX11_plan.cls ≠ "java/lang/invoke/MethodHandle" ∧ yX11_plan.cls ≠ "java/lang/invoke/VarHandle" ∧ (parseMethodDescriptor yX11_plan.desc).map (fun d => d.parameters.length) = some 0 := by decide +kernel
theorem ml_RL_164 : MLp RL 164 yX11_plan cX11_plan 3 (some .int) 0 := ⟨(inT_5 151 rfl rfl), in_yX11_plan, co_yX11_plan, pm_yX11_plan⟩
theorem mv_yX11_plan : MVp yX11_plan := ⟨(inT_5 152 rfl rfl), (inT_5 153 rfl rfl)⟩
theorem in_yX12_plan : Cond.initialized yX12_plan.cls ∈ UU := (inT_1 13 rfl rfl)
theorem co_yX12_plan : Cond.code yX12_plan cX12_plan 2 (some .int) ∈ UU := (inT_9 6 rfl rfl)
theorem pm_yX12_plan : yX12_plan.cls ≠ "java/lang/invoke/MethodHandle" ∧ yX12_plan.cls ≠ "java/lang/invoke/VarHandle" ∧ (parseMethodDescriptor yX12_plan.desc).map (fun d => d.parameters.length) = some 0 := by decide +kernel
theorem ml_RL_167 : MLp RL 167 yX12_plan cX12_plan 2 (some .int) 0 := ⟨(inT_9 3 rfl rfl), in_yX12_plan, co_yX12_plan, pm_yX12_plan⟩
theorem mv_yX12_plan : MVp yX12_plan := ⟨(inT_9 4 rfl rfl), (inT_9 5 rfl rfl)⟩
theorem in_yX11_judge : Cond.initialized yX11_judge.cls ∈ UU := (inT_1 1 rfl rfl)
theorem co_yX11_judge : Cond.code yX11_judge cX11_judge 2 (some .int) ∈ UU := (inT_5 175 rfl rfl)
theorem pm_yX11_judge : yX11_judge.cls ≠ "java/lang/invoke/MethodHandle" ∧ yX11_judge.cls ≠ "java/lang/invoke/VarHandle" ∧ (parseMethodDescriptor yX11_judge.desc).map (fun d => d.parameters.length) = some 1 := by decide +kernel
theorem ml_RL_168 : MLp RL 168 yX11_judge cX11_judge 2 (some .int) 1 := ⟨(inT_5 172 rfl rfl), in_yX11_judge, co_yX11_judge, pm_yX11_judge⟩
theorem mv_yX11_judge : MVp yX11_judge := ⟨(inT_5 173 rfl rfl), (inT_5 174 rfl rfl)⟩
theorem in_yX12_judge : Cond.initialized yX12_judge.cls ∈ UU := (inT_1 13 rfl rfl)
theorem co_yX12_judge : Cond.code yX12_judge cX12_judge 5 (some .int) ∈ UU := (inT_9 14 rfl rfl)
theorem pm_yX12_judge : yX12_judge.cls ≠ "java/lang/invoke/MethodHandle" ∧ yX12_judge.cls ≠ "java/lang/invoke/VarHandle" ∧ (parseMethodDescriptor yX12_judge.desc).map (fun d => d.parameters.length) = some 1 := by decide +kernel
theorem ml_RL_171 : MLp RL 171 yX12_judge cX12_judge 5 (some .int) 1 := ⟨(inT_9 11 rfl rfl), in_yX12_judge, co_yX12_judge, pm_yX12_judge⟩
theorem mv_yX12_judge : MVp yX12_judge := ⟨(inT_9 12 rfl rfl), (inT_9 13 rfl rfl)⟩
theorem in_yX11_judged : Cond.initialized yX11_judged.cls ∈ UU := (inT_1 1 rfl rfl)
theorem co_yX11_judged : Cond.code yX11_judged cX11_judged 2 (some .int) ∈ UU := (inT_5 221 rfl rfl)
theorem pm_yX11_judged : yX11_judged.cls ≠ "java/lang/invoke/MethodHandle" ∧ yX11_judged.cls ≠ "java/lang/invoke/VarHandle" ∧ (parseMethodDescriptor yX11_judged.desc).map (fun d => d.parameters.length) = some 1 := by decide +kernel
theorem ml_RL_172 : MLp RL 172 yX11_judged cX11_judged 2 (some .int) 1 := ⟨(inT_5 218 rfl rfl), in_yX11_judged, co_yX11_judged, pm_yX11_judged⟩
theorem mv_yX11_judged : MVp yX11_judged := ⟨(inT_5 219 rfl rfl), (inT_5 220 rfl rfl)⟩
theorem in_yX12_judged : Cond.initialized yX12_judged.cls ∈ UU := (inT_1 13 rfl rfl)
theorem co_yX12_judged : Cond.code yX12_judged cX12_judged 2 (some .int) ∈ UU := (inT_9 22 rfl rfl)
theorem pm_yX12_judged : yX12_judged.cls ≠ "java/lang/invoke/MethodHandle" ∧ yX12_judged.cls ≠ "java/lang/invoke/VarHandle" ∧ (parseMethodDescriptor yX12_judged.desc).map (fun d => d.parameters.length) = some 1 := by decide +kernel
theorem ml_RL_175 : MLp RL 175 yX12_judged cX12_judged 2 (some .int) 1 := ⟨(inT_9 19 rfl rfl), in_yX12_judged, co_yX12_judged, pm_yX12_judged⟩
theorem mv_yX12_judged : MVp yX12_judged := ⟨(inT_9 20 rfl rfl), (inT_9 21 rfl rfl)⟩
theorem in_yX11_bet : Cond.initialized yX11_bet.cls ∈ UU := (inT_1 1 rfl rfl)
theorem co_yX11_bet : Cond.code yX11_bet cX11_bet 2 (some .int) ∈ UU := (inT_5 225 rfl rfl)
theorem pm_yX11_bet : yX11_bet.cls ≠ "java/lang/invoke/MethodHandle" ∧ yX11_bet.cls ≠ "java/lang/invoke/VarHandle" ∧ (parseMethodDescriptor yX11_bet.desc).map (fun d => d.parameters.length) = some 1 := by decide +kernel
theorem ml_RL_176 : MLp RL 176 yX11_bet cX11_bet 2 (some .int) 1 := ⟨(inT_5 222 rfl rfl), in_yX11_bet, co_yX11_bet, pm_yX11_bet⟩
theorem mv_yX11_bet : MVp yX11_bet := ⟨(inT_5 223 rfl rfl), (inT_5 224 rfl rfl)⟩
theorem in_yX12_bet : Cond.initialized yX12_bet.cls ∈ UU := (inT_1 13 rfl rfl)
theorem co_yX12_bet : Cond.code yX12_bet cX12_bet 2 (some .int) ∈ UU := (inT_9 26 rfl rfl)
theorem pm_yX12_bet : yX12_bet.cls ≠ "java/lang/invoke/MethodHandle" ∧ yX12_bet.cls ≠ "java/lang/invoke/VarHandle" ∧ (parseMethodDescriptor yX12_bet.desc).map (fun d => d.parameters.length) = some 1 := by decide +kernel
theorem ml_RL_179 : MLp RL 179 yX12_bet cX12_bet 2 (some .int) 1 := ⟨(inT_9 23 rfl rfl), in_yX12_bet, co_yX12_bet, pm_yX12_bet⟩
theorem mv_yX12_bet : MVp yX12_bet := ⟨(inT_9 24 rfl rfl), (inT_9 25 rfl rfl)⟩
theorem in_yX11_bets : Cond.initialized yX11_bets.cls ∈ UU := (inT_1 1 rfl rfl)
theorem co_yX11_bets : Cond.code yX11_bets cX11_bets 4 (some .int) ∈ UU := (inT_6 3 rfl rfl)
theorem pm_yX11_bets : yX11_bets.cls ≠ "java/lang/invoke/MethodHandle" ∧ yX11_bets.cls ≠ "java/lang/invoke/VarHandle" ∧ (parseMethodDescriptor yX11_bets.desc).map (fun d => d.parameters.length) = some 3 := by decide +kernel
theorem ml_RL_180 : MLp RL 180 yX11_bets cX11_bets 4 (some .int) 3 := ⟨(inT_6 0 rfl rfl), in_yX11_bets, co_yX11_bets, pm_yX11_bets⟩
theorem mv_yX11_bets : MVp yX11_bets := ⟨(inT_6 1 rfl rfl), (inT_6 2 rfl rfl)⟩
theorem in_yX12_bets : Cond.initialized yX12_bets.cls ∈ UU := (inT_1 13 rfl rfl)
theorem co_yX12_bets : Cond.code yX12_bets cX12_bets 7 (some .int) ∈ UU := (inT_9 43 rfl rfl)
theorem pm_yX12_bets : yX12_bets.cls ≠ "java/lang/invoke/MethodHandle" ∧ yX12_bets.cls ≠ "java/lang/invoke/VarHandle" ∧ (parseMethodDescriptor yX12_bets.desc).map (fun d => d.parameters.length) = some 3 := by decide +kernel
theorem ml_RL_183 : MLp RL 183 yX12_bets cX12_bets 7 (some .int) 3 := ⟨(inT_9 40 rfl rfl), in_yX12_bets, co_yX12_bets, pm_yX12_bets⟩
theorem mv_yX12_bets : MVp yX12_bets := ⟨(inT_9 41 rfl rfl), (inT_9 42 rfl rfl)⟩
theorem in_yX11_image : Cond.initialized yX11_image.cls ∈ UU := (inT_1 1 rfl rfl)
theorem co_yX11_image : Cond.code yX11_image cX11_image 2 (some .boolean) ∈ UU := (inT_6 20 rfl rfl)
theorem pm_yX11_image : yX11_image.cls ≠ "java/lang/invoke/MethodHandle" ∧ yX11_image.cls ≠ "java/lang/invoke/VarHandle" ∧ (parseMethodDescriptor yX11_image.desc).map (fun d => d.parameters.length) = some 1 := by decide +kernel
theorem ml_RL_184 : MLp RL 184 yX11_image cX11_image 2 (some .boolean) 1 := ⟨(inT_6 17 rfl rfl), in_yX11_image, co_yX11_image, pm_yX11_image⟩
theorem mv_yX11_image : MVp yX11_image := ⟨(inT_6 18 rfl rfl), (inT_6 19 rfl rfl)⟩
theorem in_yX12_image : Cond.initialized yX12_image.cls ∈ UU := (inT_1 13 rfl rfl)
theorem co_yX12_image : Cond.code yX12_image cX12_image 3 (some .boolean) ∈ UU := (inT_9 47 rfl rfl)
theorem pm_yX12_image : yX12_image.cls ≠ "java/lang/invoke/MethodHandle" ∧ yX12_image.cls ≠ "java/lang/invoke/VarHandle" ∧ (parseMethodDescriptor yX12_image.desc).map (fun d => d.parameters.length) = some 1 := by decide +kernel
theorem ml_RL_187 : MLp RL 187 yX12_image cX12_image 3 (some .boolean) 1 := ⟨(inT_9 44 rfl rfl), in_yX12_image, co_yX12_image, pm_yX12_image⟩
theorem mv_yX12_image : MVp yX12_image := ⟨(inT_9 45 rfl rfl), (inT_9 46 rfl rfl)⟩
theorem in_yX11_restore : Cond.initialized yX11_restore.cls ∈ UU := (inT_1 1 rfl rfl)
theorem co_yX11_restore : Cond.code yX11_restore cX11_restore 2 (some .boolean) ∈ UU := (inT_6 39 rfl rfl)
theorem pm_yX11_restore : yX11_restore.cls ≠ "java/lang/invoke/MethodHandle" ∧ yX11_restore.cls ≠ "java/lang/invoke/VarHandle" ∧ (parseMethodDescriptor yX11_restore.desc).map (fun d => d.parameters.length) = some 1 := by decide +kernel
theorem ml_RL_188 : MLp RL 188 yX11_restore cX11_restore 2 (some .boolean) 1 := ⟨(inT_6 36 rfl rfl), in_yX11_restore, co_yX11_restore, pm_yX11_restore⟩
theorem mv_yX11_restore : MVp yX11_restore := ⟨(inT_6 37 rfl rfl), (inT_6 38 rfl rfl)⟩
theorem in_yX11_kind : Cond.initialized yX11_kind.cls ∈ UU := (inT_1 1 rfl rfl)
theorem co_yX11_kind : Cond.code yX11_kind cX11_kind 3 (some .int) ∈ UU := (inT_6 127 rfl rfl)
theorem pm_yX11_kind : yX11_kind.cls ≠ "java/lang/invoke/MethodHandle" ∧ yX11_kind.cls ≠ "java/lang/invoke/VarHandle" ∧ (parseMethodDescriptor yX11_kind.desc).map (fun d => d.parameters.length) = some 2 := by decide +kernel
theorem ml_RL_19 : MLp RL 19 yX11_kind cX11_kind 3 (some .int) 2 := ⟨(inT_6 124 rfl rfl), in_yX11_kind, co_yX11_kind, pm_yX11_kind⟩
theorem mv_yX11_kind : MVp yX11_kind := ⟨(inT_6 125 rfl rfl), (inT_6 126 rfl rfl)⟩
theorem in_yX12_restore : Cond.initialized yX12_restore.cls ∈ UU := (inT_1 13 rfl rfl)
theorem co_yX12_restore : Cond.code yX12_restore cX12_restore 3 (some .boolean) ∈ UU := (inT_9 51 rfl rfl)
theorem pm_yX12_restore : yX12_restore.cls ≠ "java/lang/invoke/MethodHandle" ∧ yX12_restore.cls ≠ "java/lang/invoke/VarHandle" ∧ (parseMethodDescriptor yX12_restore.desc).map (fun d => d.parameters.length) = some 1 := by decide +kernel
theorem ml_RL_191 : MLp RL 191 yX12_restore cX12_restore 3 (some .boolean) 1 := ⟨(inT_9 48 rfl rfl), in_yX12_restore, co_yX12_restore, pm_yX12_restore⟩
theorem mv_yX12_restore : MVp yX12_restore := ⟨(inT_9 49 rfl rfl), (inT_9 50 rfl rfl)⟩
theorem in_yX11_count : Cond.initialized yX11_count.cls ∈ UU := (inT_1 1 rfl rfl)
theorem co_yX11_count : Cond.code yX11_count cX11_count 3 (some .int) ∈ UU := (inT_6 43 rfl rfl)
theorem pm_yX11_count : yX11_count.cls ≠ "java/lang/invoke/MethodHandle" ∧ yX11_count.cls ≠ "java/lang/invoke/VarHandle" ∧ (parseMethodDescriptor yX11_count.desc).map (fun d => d.parameters.length) = some 1 := by decide +kernel
theorem ml_RL_192 : MLp RL 192 yX11_count cX11_count 3 (some .int) 1 := ⟨(inT_6 40 rfl rfl), in_yX11_count, co_yX11_count, pm_yX11_count⟩
theorem mv_yX11_count : MVp yX11_count := ⟨(inT_6 41 rfl rfl), (inT_6 42 rfl rfl)⟩
theorem in_yX12_count : Cond.initialized yX12_count.cls ∈ UU := (inT_1 13 rfl rfl)
theorem co_yX12_count : Cond.code yX12_count cX12_count 2 (some .int) ∈ UU := (inT_9 55 rfl rfl)
theorem pm_yX12_count : yX12_count.cls ≠ "java/lang/invoke/MethodHandle" ∧ yX12_count.cls ≠ "java/lang/invoke/VarHandle" ∧ (parseMethodDescriptor yX12_count.desc).map (fun d => d.parameters.length) = some 1 := by decide +kernel
theorem ml_RL_195 : MLp RL 195 yX12_count cX12_count 2 (some .int) 1 := ⟨(inT_9 52 rfl rfl), in_yX12_count, co_yX12_count, pm_yX12_count⟩
theorem mv_yX12_count : MVp yX12_count := ⟨(inT_9 53 rfl rfl), (inT_9 54 rfl rfl)⟩
theorem in_yX11_wagon : Cond.initialized yX11_wagon.cls ∈ UU := (inT_1 1 rfl rfl)
theorem co_yX11_wagon : Cond.code yX11_wagon cX11_wagon 4 (some .int) ∈ UU := (inT_6 134 rfl rfl)
theorem pm_yX11_wagon : yX11_wagon.cls ≠ "java/lang/invoke/MethodHandle" ∧ yX11_wagon.cls ≠ "java/lang/invoke/VarHandle" ∧ (parseMethodDescriptor yX11_wagon.desc).map (fun d => d.parameters.length) = some 2 := by decide +kernel
theorem ml_RL_22 : MLp RL 22 yX11_wagon cX11_wagon 4 (some .int) 2 := ⟨(inT_6 131 rfl rfl), in_yX11_wagon, co_yX11_wagon, pm_yX11_wagon⟩
theorem mv_yX11_wagon : MVp yX11_wagon := ⟨(inT_6 132 rfl rfl), (inT_6 133 rfl rfl)⟩
theorem in_yX11_half : Cond.initialized yX11_half.cls ∈ UU := (inT_1 1 rfl rfl)
theorem co_yX11_half : Cond.code yX11_half cX11_half 4 (some .int) ∈ UU := (inT_6 148 rfl rfl)
theorem pm_yX11_half : yX11_half.cls ≠ "java/lang/invoke/MethodHandle" ∧ yX11_half.cls ≠ "java/lang/invoke/VarHandle" ∧ (parseMethodDescriptor yX11_half.desc).map (fun d => d.parameters.length) = some 2 := by decide +kernel
theorem ml_RL_25 : MLp RL 25 yX11_half cX11_half 4 (some .int) 2 := ⟨(inT_6 145 rfl rfl), in_yX11_half, co_yX11_half, pm_yX11_half⟩
theorem mv_yX11_half : MVp yX11_half := ⟨(inT_6 146 rfl rfl), (inT_6 147 rfl rfl)⟩
theorem in_yX11_strain : Cond.initialized yX11_strain.cls ∈ UU := (inT_1 1 rfl rfl)
theorem co_yX11_strain : Cond.code yX11_strain cX11_strain 4 (some .int) ∈ UU := (inT_6 171 rfl rfl)
theorem pm_yX11_strain : yX11_strain.cls ≠ "java/lang/invoke/MethodHandle" ∧ yX11_strain.cls ≠ "java/lang/invoke/VarHandle" ∧ (parseMethodDescriptor yX11_strain.desc).map (fun d => d.parameters.length) = some 3 := by decide +kernel
theorem ml_RL_28 : MLp RL 28 yX11_strain cX11_strain 4 (some .int) 3 := ⟨(inT_6 168 rfl rfl), in_yX11_strain, co_yX11_strain, pm_yX11_strain⟩
theorem mv_yX11_strain : MVp yX11_strain := ⟨(inT_6 169 rfl rfl), (inT_6 170 rfl rfl)⟩
theorem in_yX11_squeeze : Cond.initialized yX11_squeeze.cls ∈ UU := (inT_1 1 rfl rfl)
theorem co_yX11_squeeze : Cond.code yX11_squeeze cX11_squeeze 4 (some .int) ∈ UU := (inT_6 186 rfl rfl)
theorem pm_yX11_squeeze : yX11_squeeze.cls ≠ "java/lang/invoke/MethodHandle" ∧ yX11_squeeze.cls ≠ "java/lang/invoke/VarHandle" ∧ (parseMethodDescriptor yX11_squeeze.desc).map (fun d => d.parameters.length) = some 3 := by decide +kernel
theorem ml_RL_32 : MLp RL 32 yX11_squeeze cX11_squeeze 4 (some .int) 3 := ⟨(inT_6 183 rfl rfl), in_yX11_squeeze, co_yX11_squeeze, pm_yX11_squeeze⟩
theorem mv_yX11_squeeze : MVp yX11_squeeze := ⟨(inT_6 184 rfl rfl), (inT_6 185 rfl rfl)⟩
theorem in_yX11_feed : Cond.initialized yX11_feed.cls ∈ UU := (inT_1 1 rfl rfl)
theorem co_yX11_feed : Cond.code yX11_feed cX11_feed 6 (some .int) ∈ UU := (inT_3 58 rfl rfl)
theorem pm_yX11_feed : yX11_feed.cls ≠ "java/lang/invoke/MethodHandle" ∧ yX11_feed.cls ≠ "java/lang/invoke/VarHandle" ∧ (parseMethodDescriptor yX11_feed.desc).map (fun d => d.parameters.length) = some 5 := by decide +kernel
theorem ml_RL_39 : MLp RL 39 yX11_feed cX11_feed 6 (some .int) 5 := ⟨(inT_3 55 rfl rfl), in_yX11_feed, co_yX11_feed, pm_yX11_feed⟩
theorem mv_yX11_feed : MVp yX11_feed := ⟨(inT_3 56 rfl rfl), (inT_3 57 rfl rfl)⟩
theorem in_yX12_feed : Cond.initialized yX12_feed.cls ∈ UU := (inT_1 13 rfl rfl)
theorem co_yX12_feed : Cond.code yX12_feed cX12_feed 6 (some .int) ∈ UU := (inT_6 194 rfl rfl)
theorem pm_yX12_feed : yX12_feed.cls ≠ "java/lang/invoke/MethodHandle" ∧ yX12_feed.cls ≠ "java/lang/invoke/VarHandle" ∧ (parseMethodDescriptor yX12_feed.desc).map (fun d => d.parameters.length) = some 5 := by decide +kernel
theorem ml_RL_43 : MLp RL 43 yX12_feed cX12_feed 6 (some .int) 5 := ⟨(inT_6 191 rfl rfl), in_yX12_feed, co_yX12_feed, pm_yX12_feed⟩
theorem mv_yX12_feed : MVp yX12_feed := ⟨(inT_6 192 rfl rfl), (inT_6 193 rfl rfl)⟩
theorem in_yX11_end : Cond.initialized yX11_end.cls ∈ UU := (inT_1 1 rfl rfl)
theorem co_yX11_end : Cond.code yX11_end cX11_end 2 (some .boolean) ∈ UU := (inT_3 66 rfl rfl)
theorem pm_yX11_end : yX11_end.cls ≠ "java/lang/invoke/MethodHandle" ∧ yX11_end.cls ≠ "java/lang/invoke/VarHandle" ∧ (parseMethodDescriptor yX11_end.desc).map (fun d => d.parameters.length) = some 1 := by decide +kernel
theorem ml_RL_44 : MLp RL 44 yX11_end cX11_end 2 (some .boolean) 1 := ⟨(inT_3 63 rfl rfl), in_yX11_end, co_yX11_end, pm_yX11_end⟩
theorem mv_yX11_end : MVp yX11_end := ⟨(inT_3 64 rfl rfl), (inT_3 65 rfl rfl)⟩
theorem in_yX12_end : Cond.initialized yX12_end.cls ∈ UU := (inT_1 13 rfl rfl)
theorem co_yX12_end : Cond.code yX12_end cX12_end 2 (some .boolean) ∈ UU := (inT_6 203 rfl rfl)
theorem pm_yX12_end : yX12_end.cls ≠ "java/lang/invoke/MethodHandle" ∧ yX12_end.cls ≠ "java/lang/invoke/VarHandle" ∧ (parseMethodDescriptor yX12_end.desc).map (fun d => d.parameters.length) = some 1 := by decide +kernel
theorem ml_RL_48 : MLp RL 48 yX12_end cX12_end 2 (some .boolean) 1 := ⟨(inT_6 200 rfl rfl), in_yX12_end, co_yX12_end, pm_yX12_end⟩
theorem mv_yX12_end : MVp yX12_end := ⟨(inT_6 201 rfl rfl), (inT_6 202 rfl rfl)⟩
theorem in_yX11_line : Cond.initialized yX11_line.cls ∈ UU := (inT_1 1 rfl rfl)
theorem co_yX11_line : Cond.code yX11_line cX11_line 3 (some .int) ∈ UU := (inT_3 70 rfl rfl)
theorem pm_yX11_line : yX11_line.cls ≠ "java/lang/invoke/MethodHandle" ∧ yX11_line.cls ≠ "java/lang/invoke/VarHandle" ∧ (parseMethodDescriptor yX11_line.desc).map (fun d => d.parameters.length) = some 0 := by decide +kernel
theorem ml_RL_49 : MLp RL 49 yX11_line cX11_line 3 (some .int) 0 := ⟨(inT_3 67 rfl rfl), in_yX11_line, co_yX11_line, pm_yX11_line⟩
theorem mv_yX11_line : MVp yX11_line := ⟨(inT_3 68 rfl rfl), (inT_3 69 rfl rfl)⟩
theorem in_yX12_line : Cond.initialized yX12_line.cls ∈ UU := (inT_1 13 rfl rfl)
theorem co_yX12_line : Cond.code yX12_line cX12_line 2 (some .int) ∈ UU := (inT_7 141 rfl rfl)
theorem pm_yX12_line : yX12_line.cls ≠ "java/lang/invoke/MethodHandle" ∧ yX12_line.cls ≠ "java/lang/invoke/VarHandle" ∧ (parseMethodDescriptor yX12_line.desc).map (fun d => d.parameters.length) = some 0 := by decide +kernel
theorem ml_RL_53 : MLp RL 53 yX12_line cX12_line 2 (some .int) 0 := ⟨(inT_7 138 rfl rfl), in_yX12_line, co_yX12_line, pm_yX12_line⟩
theorem mv_yX12_line : MVp yX12_line := ⟨(inT_7 139 rfl rfl), (inT_7 140 rfl rfl)⟩
theorem in_yX11_fault : Cond.initialized yX11_fault.cls ∈ UU := (inT_1 1 rfl rfl)
theorem co_yX11_fault : Cond.code yX11_fault cX11_fault 1 (some .int) ∈ UU := (inT_4 57 rfl rfl)
theorem pm_yX11_fault : yX11_fault.cls ≠ "java/lang/invoke/MethodHandle" ∧ yX11_fault.cls ≠ "java/lang/invoke/VarHandle" ∧ (parseMethodDescriptor yX11_fault.desc).map (fun d => d.parameters.length) = some 0 := by decide +kernel
theorem ml_RL_54 : MLp RL 54 yX11_fault cX11_fault 1 (some .int) 0 := ⟨(inT_4 54 rfl rfl), in_yX11_fault, co_yX11_fault, pm_yX11_fault⟩
theorem mv_yX11_fault : MVp yX11_fault := ⟨(inT_4 55 rfl rfl), (inT_4 56 rfl rfl)⟩
theorem in_yX12_fault : Cond.initialized yX12_fault.cls ∈ UU := (inT_1 13 rfl rfl)
theorem co_yX12_fault : Cond.code yX12_fault cX12_fault 1 (some .int) ∈ UU := (inT_7 233 rfl rfl)
theorem pm_yX12_fault : yX12_fault.cls ≠ "java/lang/invoke/MethodHandle" ∧ yX12_fault.cls ≠ "java/lang/invoke/VarHandle" ∧ (parseMethodDescriptor yX12_fault.desc).map (fun d => d.parameters.length) = some 0 := by decide +kernel
theorem ml_RL_57 : MLp RL 57 yX12_fault cX12_fault 1 (some .int) 0 := ⟨(inT_7 230 rfl rfl), in_yX12_fault, co_yX12_fault, pm_yX12_fault⟩
theorem mv_yX12_fault : MVp yX12_fault := ⟨(inT_7 231 rfl rfl), (inT_7 232 rfl rfl)⟩
theorem in_yX12_grade : Cond.initialized yX12_grade.cls ∈ UU := (inT_1 13 rfl rfl)
theorem co_yX12_grade : Cond.code yX12_grade cX12_grade 2 (some .int) ∈ UU := (inT_7 237 rfl rfl)
theorem pm_yX12_grade : yX12_grade.cls ≠ "java/lang/invoke/MethodHandle" ∧ yX12_grade.cls ≠ "java/lang/invoke/VarHandle" ∧ (parseMethodDescriptor yX12_grade.desc).map (fun d => d.parameters.length) = some 1 := by decide +kernel
theorem ml_RL_63 : MLp RL 63 yX12_grade cX12_grade 2 (some .int) 1 := ⟨(inT_7 234 rfl rfl), in_yX12_grade, co_yX12_grade, pm_yX12_grade⟩
theorem mv_yX12_grade : MVp yX12_grade := ⟨(inT_7 235 rfl rfl), (inT_7 236 rfl rfl)⟩
theorem in_yX12_thrown : Cond.initialized yX12_thrown.cls ∈ UU := (inT_1 13 rfl rfl)
theorem co_yX12_thrown : Cond.code yX12_thrown cX12_thrown 1 (some .int) ∈ UU := (inT_6 190 rfl rfl)
theorem pm_yX12_thrown : yX12_thrown.cls ≠ "java/lang/invoke/MethodHandle" ∧ yX12_thrown.cls ≠ "java/lang/invoke/VarHandle" ∧ (parseMethodDescriptor yX12_thrown.desc).map (fun d => d.parameters.length) = some 0 := by decide +kernel
theorem ml_RL_64 : MLp RL 64 yX12_thrown cX12_thrown 1 (some .int) 0 := ⟨(inT_6 187 rfl rfl), in_yX12_thrown, co_yX12_thrown, pm_yX12_thrown⟩
theorem mv_yX12_thrown : MVp yX12_thrown := ⟨(inT_6 188 rfl rfl), (inT_6 189 rfl rfl)⟩
theorem in_yX11_grade : Cond.initialized yX11_grade.cls ∈ UU := (inT_1 1 rfl rfl)
theorem co_yX11_grade : Cond.code yX11_grade cX11_grade 2 (some .int) ∈ UU := (inT_6 51 rfl rfl)
theorem pm_yX11_grade : yX11_grade.cls ≠ "java/lang/invoke/MethodHandle" ∧ yX11_grade.cls ≠ "java/lang/invoke/VarHandle" ∧ (parseMethodDescriptor yX11_grade.desc).map (fun d => d.parameters.length) = some 1 := by decide +kernel
theorem ml_RL_7 : MLp RL 7 yX11_grade cX11_grade 2 (some .int) 1 := ⟨(inT_6 48 rfl rfl), in_yX11_grade, co_yX11_grade, pm_yX11_grade⟩
theorem mv_yX11_grade : MVp yX11_grade := ⟨(inT_6 49 rfl rfl), (inT_6 50 rfl rfl)⟩
theorem in_yX12_halt : Cond.initialized yX12_halt.cls ∈ UU := (inT_1 13 rfl rfl)
theorem co_yX12_halt : Cond.code yX12_halt cX12_halt 3 (some .int) ∈ UU := (inT_8 9 rfl rfl)
theorem pm_yX12_halt : yX12_halt.cls ≠ "java/lang/invoke/MethodHandle" ∧ yX12_halt.cls ≠ "java/lang/invoke/VarHandle" ∧ (parseMethodDescriptor yX12_halt.desc).map (fun d => d.parameters.length) = some 2 := by decide +kernel
theorem ml_RL_70 : MLp RL 70 yX12_halt cX12_halt 3 (some .int) 2 := ⟨(inT_8 6 rfl rfl), in_yX12_halt, co_yX12_halt, pm_yX12_halt⟩
theorem mv_yX12_halt : MVp yX12_halt := ⟨(inT_8 7 rfl rfl), (inT_8 8 rfl rfl)⟩
theorem in_yX12_kind : Cond.initialized yX12_kind.cls ∈ UU := (inT_1 13 rfl rfl)
theorem co_yX12_kind : Cond.code yX12_kind cX12_kind 3 (some .int) ∈ UU := (inT_8 25 rfl rfl)
theorem pm_yX12_kind : yX12_kind.cls ≠ "java/lang/invoke/MethodHandle" ∧ yX12_kind.cls ≠ "java/lang/invoke/VarHandle" ∧ (parseMethodDescriptor yX12_kind.desc).map (fun d => d.parameters.length) = some 2 := by decide +kernel
theorem ml_RL_73 : MLp RL 73 yX12_kind cX12_kind 3 (some .int) 2 := ⟨(inT_8 22 rfl rfl), in_yX12_kind, co_yX12_kind, pm_yX12_kind⟩
theorem mv_yX12_kind : MVp yX12_kind := ⟨(inT_8 23 rfl rfl), (inT_8 24 rfl rfl)⟩
theorem in_yX11_train : Cond.initialized yX11_train.cls ∈ UU := (inT_1 1 rfl rfl)
theorem co_yX11_train : Cond.code yX11_train cX11_train 3 (some .int) ∈ UU := (inT_4 61 rfl rfl)
theorem pm_yX11_train : yX11_train.cls ≠ "java/lang/invoke/MethodHandle" ∧ yX11_train.cls ≠ "java/lang/invoke/VarHandle" ∧ (parseMethodDescriptor yX11_train.desc).map (fun d => d.parameters.length) = some 1 := by decide +kernel
theorem ml_RL_74 : MLp RL 74 yX11_train cX11_train 3 (some .int) 1 := ⟨(inT_4 58 rfl rfl), in_yX11_train, co_yX11_train, pm_yX11_train⟩
theorem mv_yX11_train : MVp yX11_train := ⟨(inT_4 59 rfl rfl), (inT_4 60 rfl rfl)⟩
theorem in_yX12_train : Cond.initialized yX12_train.cls ∈ UU := (inT_1 13 rfl rfl)
theorem co_yX12_train : Cond.code yX12_train cX12_train 4 (some .int) ∈ UU := (inT_8 206 rfl rfl)
theorem pm_yX12_train : yX12_train.cls ≠ "java/lang/invoke/MethodHandle" ∧ yX12_train.cls ≠ "java/lang/invoke/VarHandle" ∧ (parseMethodDescriptor yX12_train.desc).map (fun d => d.parameters.length) = some 1 := by decide +kernel
theorem ml_RL_77 : MLp RL 77 yX12_train cX12_train 4 (some .int) 1 := ⟨(inT_8 203 rfl rfl), in_yX12_train, co_yX12_train, pm_yX12_train⟩
theorem mv_yX12_train : MVp yX12_train := ⟨(inT_8 204 rfl rfl), (inT_8 205 rfl rfl)⟩
theorem in_yX12_wagon : Cond.initialized yX12_wagon.cls ∈ UU := (inT_1 13 rfl rfl)
theorem co_yX12_wagon : Cond.code yX12_wagon cX12_wagon 3 (some .int) ∈ UU := (inT_8 218 rfl rfl)
theorem pm_yX12_wagon : yX12_wagon.cls ≠ "java/lang/invoke/MethodHandle" ∧ yX12_wagon.cls ≠ "java/lang/invoke/VarHandle" ∧ (parseMethodDescriptor yX12_wagon.desc).map (fun d => d.parameters.length) = some 2 := by decide +kernel
theorem ml_RL_80 : MLp RL 80 yX12_wagon cX12_wagon 3 (some .int) 2 := ⟨(inT_8 215 rfl rfl), in_yX12_wagon, co_yX12_wagon, pm_yX12_wagon⟩
theorem mv_yX12_wagon : MVp yX12_wagon := ⟨(inT_8 216 rfl rfl), (inT_8 217 rfl rfl)⟩
theorem in_yX12_half : Cond.initialized yX12_half.cls ∈ UU := (inT_1 13 rfl rfl)
theorem co_yX12_half : Cond.code yX12_half cX12_half 7 (some .int) ∈ UU := (inT_8 226 rfl rfl)
theorem pm_yX12_half : yX12_half.cls ≠ "java/lang/invoke/MethodHandle" ∧ yX12_half.cls ≠ "java/lang/invoke/VarHandle" ∧ (parseMethodDescriptor yX12_half.desc).map (fun d => d.parameters.length) = some 2 := by decide +kernel
theorem ml_RL_83 : MLp RL 83 yX12_half cX12_half 7 (some .int) 2 := ⟨(inT_8 223 rfl rfl), in_yX12_half, co_yX12_half, pm_yX12_half⟩
theorem mv_yX12_half : MVp yX12_half := ⟨(inT_8 224 rfl rfl), (inT_8 225 rfl rfl)⟩
theorem in_yX11_go : Cond.initialized yX11_go.cls ∈ UU := (inT_1 1 rfl rfl)
theorem co_yX11_go : Cond.code yX11_go cX11_go 4 (some .int) ∈ UU := (inT_4 86 rfl rfl)
theorem pm_yX11_go : yX11_go.cls ≠ "java/lang/invoke/MethodHandle" ∧ yX11_go.cls ≠ "java/lang/invoke/VarHandle" ∧ (parseMethodDescriptor yX11_go.desc).map (fun d => d.parameters.length) = some 2 := by decide +kernel
theorem ml_RL_84 : MLp RL 84 yX11_go cX11_go 4 (some .int) 2 := ⟨(inT_4 83 rfl rfl), in_yX11_go, co_yX11_go, pm_yX11_go⟩
theorem mv_yX11_go : MVp yX11_go := ⟨(inT_4 84 rfl rfl), (inT_4 85 rfl rfl)⟩
theorem in_yX12_go : Cond.initialized yX12_go.cls ∈ UU := (inT_1 13 rfl rfl)
theorem co_yX12_go : Cond.code yX12_go cX12_go 3 (some .int) ∈ UU := (inT_8 230 rfl rfl)
theorem pm_yX12_go : yX12_go.cls ≠ "java/lang/invoke/MethodHandle" ∧ yX12_go.cls ≠ "java/lang/invoke/VarHandle" ∧ (parseMethodDescriptor yX12_go.desc).map (fun d => d.parameters.length) = some 2 := by decide +kernel
theorem ml_RL_87 : MLp RL 87 yX12_go cX12_go 3 (some .int) 2 := ⟨(inT_8 227 rfl rfl), in_yX12_go, co_yX12_go, pm_yX12_go⟩
theorem mv_yX12_go : MVp yX12_go := ⟨(inT_8 228 rfl rfl), (inT_8 229 rfl rfl)⟩
theorem in_yX12_strain : Cond.initialized yX12_strain.cls ∈ UU := (inT_1 13 rfl rfl)
theorem co_yX12_strain : Cond.code yX12_strain cX12_strain 4 (some .int) ∈ UU := (inT_8 37 rfl rfl)
theorem pm_yX12_strain : yX12_strain.cls ≠ "java/lang/invoke/MethodHandle" ∧ yX12_strain.cls ≠ "java/lang/invoke/VarHandle" ∧ (parseMethodDescriptor yX12_strain.desc).map (fun d => d.parameters.length) = some 3 := by decide +kernel
theorem ml_RL_91 : MLp RL 91 yX12_strain cX12_strain 4 (some .int) 3 := ⟨(inT_8 34 rfl rfl), in_yX12_strain, co_yX12_strain, pm_yX12_strain⟩
theorem mv_yX12_strain : MVp yX12_strain := ⟨(inT_8 35 rfl rfl), (inT_8 36 rfl rfl)⟩
theorem in_yX12_squeeze : Cond.initialized yX12_squeeze.cls ∈ UU := (inT_1 13 rfl rfl)
theorem co_yX12_squeeze : Cond.code yX12_squeeze cX12_squeeze 4 (some .int) ∈ UU := (inT_8 69 rfl rfl)
theorem pm_yX12_squeeze : yX12_squeeze.cls ≠ "java/lang/invoke/MethodHandle" ∧ yX12_squeeze.cls ≠ "java/lang/invoke/VarHandle" ∧ (parseMethodDescriptor yX12_squeeze.desc).map (fun d => d.parameters.length) = some 3 := by decide +kernel
theorem ml_RL_94 : MLp RL 94 yX12_squeeze cX12_squeeze 4 (some .int) 3 := ⟨(inT_8 66 rfl rfl), in_yX12_squeeze, co_yX12_squeeze, pm_yX12_squeeze⟩
theorem mv_yX12_squeeze : MVp yX12_squeeze := ⟨(inT_8 67 rfl rfl), (inT_8 68 rfl rfl)⟩
theorem in_yX11_span : Cond.initialized yX11_span.cls ∈ UU := (inT_1 1 rfl rfl)
theorem co_yX11_span : Cond.code yX11_span cX11_span 4 (some .int) ∈ UU := (inT_4 132 rfl rfl)
theorem pm_yX11_span : yX11_span.cls ≠ "java/lang/invoke/MethodHandle" ∧ yX11_span.cls ≠ "java/lang/invoke/VarHandle" ∧ (parseMethodDescriptor yX11_span.desc).map (fun d => d.parameters.length) = some 3 := by decide +kernel
theorem ml_RL_95 : MLp RL 95 yX11_span cX11_span 4 (some .int) 3 := ⟨(inT_4 129 rfl rfl), in_yX11_span, co_yX11_span, pm_yX11_span⟩
theorem mv_yX11_span : MVp yX11_span := ⟨(inT_4 130 rfl rfl), (inT_4 131 rfl rfl)⟩
theorem in_yX12_span : Cond.initialized yX12_span.cls ∈ UU := (inT_1 13 rfl rfl)
theorem co_yX12_span : Cond.code yX12_span cX12_span 9 (some .int) ∈ UU := (inT_8 73 rfl rfl)
theorem pm_yX12_span : yX12_span.cls ≠ "java/lang/invoke/MethodHandle" ∧ yX12_span.cls ≠ "java/lang/invoke/VarHandle" ∧ (parseMethodDescriptor yX12_span.desc).map (fun d => d.parameters.length) = some 3 := by decide +kernel
theorem ml_RL_98 : MLp RL 98 yX12_span cX12_span 9 (some .int) 3 := ⟨(inT_8 70 rfl rfl), in_yX12_span, co_yX12_span, pm_yX12_span⟩
theorem mv_yX12_span : MVp yX12_span := ⟨(inT_8 71 rfl rfl), (inT_8 72 rfl rfl)⟩
theorem in_yX11_loop : Cond.initialized yX11_loop.cls ∈ UU := (inT_1 1 rfl rfl)
theorem co_yX11_loop : Cond.code yX11_loop cX11_loop 3 (some .int) ∈ UU := (inT_4 148 rfl rfl)
theorem pm_yX11_loop : yX11_loop.cls ≠ "java/lang/invoke/MethodHandle" ∧ yX11_loop.cls ≠ "java/lang/invoke/VarHandle" ∧ (parseMethodDescriptor yX11_loop.desc).map (fun d => d.parameters.length) = some 2 := by decide +kernel
theorem ml_RL_99 : MLp RL 99 yX11_loop cX11_loop 3 (some .int) 2 := ⟨(inT_4 145 rfl rfl), in_yX11_loop, co_yX11_loop, pm_yX11_loop⟩
theorem mv_yX11_loop : MVp yX11_loop := ⟨(inT_4 146 rfl rfl), (inT_4 147 rfl rfl)⟩
theorem in_yX3_haltAt : Cond.initialized yX3_haltAt.cls ∈ UU := (inT_1 5 rfl rfl)
theorem co_yX3_haltAt : Cond.code yX3_haltAt cX3_haltAt 2 (some .int) ∈ UU := (inT_3 214 rfl rfl)
theorem pm_yX3_haltAt : yX3_haltAt.cls ≠ "java/lang/invoke/MethodHandle" ∧ yX3_haltAt.cls ≠ "java/lang/invoke/VarHandle" ∧ (parseMethodDescriptor yX3_haltAt.desc).map (fun d => d.parameters.length) = some 1 := by decide +kernel
theorem ml_RX0_101 : MLp RX0 101 yX3_haltAt cX3_haltAt 2 (some .int) 1 := ⟨(inT_5 60 rfl rfl), in_yX3_haltAt, co_yX3_haltAt, pm_yX3_haltAt⟩
theorem mv_yX3_haltAt : MVp yX3_haltAt := ⟨(inT_3 212 rfl rfl), (inT_3 213 rfl rfl)⟩
theorem in_yX3_haltLong : Cond.initialized yX3_haltLong.cls ∈ UU := (inT_1 5 rfl rfl)
theorem co_yX3_haltLong : Cond.code yX3_haltLong cX3_haltLong 2 (some .int) ∈ UU := (inT_5 64 rfl rfl)
theorem pm_yX3_haltLong : yX3_haltLong.cls ≠ "java/lang/invoke/MethodHandle" ∧ yX3_haltLong.cls ≠ "java/lang/invoke/VarHandle" ∧ (parseMethodDescriptor yX3_haltLong.desc).map (fun d => d.parameters.length) = some 1 := by decide +kernel
theorem ml_RX0_108 : MLp RX0 108 yX3_haltLong cX3_haltLong 2 (some .int) 1 := ⟨(inT_5 61 rfl rfl), in_yX3_haltLong, co_yX3_haltLong, pm_yX3_haltLong⟩
theorem mv_yX3_haltLong : MVp yX3_haltLong := ⟨(inT_5 62 rfl rfl), (inT_5 63 rfl rfl)⟩
theorem in_yX0_cookComes : Cond.initialized yX0_cookComes.cls ∈ UU := (inT_1 10 rfl rfl)
theorem co_yX0_cookComes : Cond.code yX0_cookComes cX0_cookComes 6 (some .boolean) ∈ UU := (inT_5 88 rfl rfl)
theorem pm_yX0_cookComes : yX0_cookComes.cls ≠ "java/lang/invoke/MethodHandle" ∧ yX0_cookComes.cls ≠ "java/lang/invoke/VarHandle" ∧ (parseMethodDescriptor yX0_cookComes.desc).map (fun d => d.parameters.length) = some 2 := by decide +kernel
theorem ml_RX0_120 : MLp RX0 120 yX0_cookComes cX0_cookComes 6 (some .boolean) 2 := ⟨(inT_5 85 rfl rfl), in_yX0_cookComes, co_yX0_cookComes, pm_yX0_cookComes⟩
theorem mv_yX0_cookComes : MVp yX0_cookComes := ⟨(inT_5 87 rfl rfl), (inP_3 0 rfl rfl rfl)⟩
theorem in_yX0_cookPassesBehind : Cond.initialized yX0_cookPassesBehind.cls ∈ UU := (inT_1 10 rfl rfl)
theorem co_yX0_cookPassesBehind : Cond.code yX0_cookPassesBehind cX0_cookPassesBehind 2 (some .boolean) ∈ UU := (inT_5 93 rfl rfl)
theorem pm_yX0_cookPassesBehind : yX0_cookPassesBehind.cls ≠ "java/lang/invoke/MethodHandle" ∧ yX0_cookPassesBehind.cls ≠ "java/lang/invoke/VarHandle" ∧ (parseMethodDescriptor yX0_cookPassesBehind.desc).map (fun d => d.parameters.length) = some 1 := by decide +kernel
theorem ml_RX0_127 : MLp RX0 127 yX0_cookPassesBehind cX0_cookPassesBehind 2 (some .boolean) 1 := ⟨(inT_5 90 rfl rfl), in_yX0_cookPassesBehind, co_yX0_cookPassesBehind, pm_yX0_cookPassesBehind⟩
theorem mv_yX0_cookPassesBehind : MVp yX0_cookPassesBehind := ⟨(inT_5 92 rfl rfl), (inP_3 1 rfl rfl rfl)⟩
theorem in_yX0_cookPassesAhead : Cond.initialized yX0_cookPassesAhead.cls ∈ UU := (inT_1 10 rfl rfl)
theorem co_yX0_cookPassesAhead : Cond.code yX0_cookPassesAhead cX0_cookPassesAhead 1 (some .boolean) ∈ UU := (inT_5 101 rfl rfl)
theorem pm_yX0_cookPassesAhead : yX0_cookPassesAhead.cls ≠ "java/lang/invoke/MethodHandle" ∧ yX0_cookPassesAhead.cls ≠ "java/lang/invoke/VarHandle" ∧ (parseMethodDescriptor yX0_cookPassesAhead.desc).map (fun d => d.parameters.length) = some 0 := by decide +kernel
theorem ml_RX0_131 : MLp RX0 131 yX0_cookPassesAhead cX0_cookPassesAhead 1 (some .boolean) 0 := ⟨(inT_5 98 rfl rfl), in_yX0_cookPassesAhead, co_yX0_cookPassesAhead, pm_yX0_cookPassesAhead⟩
theorem mv_yX0_cookPassesAhead : MVp yX0_cookPassesAhead := ⟨(inT_5 100 rfl rfl), (inP_3 3 rfl rfl rfl)⟩
theorem in_yX0_canPass : Cond.initialized yX0_canPass.cls ∈ UU := (inT_1 10 rfl rfl)
theorem co_yX0_canPass : Cond.code yX0_canPass cX0_canPass 2 (some .boolean) ∈ UU := (inT_5 97 rfl rfl)
theorem pm_yX0_canPass : yX0_canPass.cls ≠ "java/lang/invoke/MethodHandle" ∧ yX0_canPass.cls ≠ "java/lang/invoke/VarHandle" ∧ (parseMethodDescriptor yX0_canPass.desc).map (fun d => d.parameters.length) = some 1 := by decide +kernel
theorem ml_RX0_134 : MLp RX0 134 yX0_canPass cX0_canPass 2 (some .boolean) 1 := ⟨(inT_5 94 rfl rfl), in_yX0_canPass, co_yX0_canPass, pm_yX0_canPass⟩
theorem mv_yX0_canPass : MVp yX0_canPass := ⟨(inT_5 96 rfl rfl), (inP_3 2 rfl rfl rfl)⟩
theorem in_yX0_wagonsAtPlatform : Cond.initialized yX0_wagonsAtPlatform.cls ∈ UU := (inT_1 10 rfl rfl)
theorem co_yX0_wagonsAtPlatform : Cond.code yX0_wagonsAtPlatform cX0_wagonsAtPlatform 5 (some .int) ∈ UU := (inT_5 59 rfl rfl)
theorem pm_yX0_wagonsAtPlatform : yX0_wagonsAtPlatform.cls ≠ "java/lang/invoke/MethodHandle" ∧ yX0_wagonsAtPlatform.cls ≠ "java/lang/invoke/VarHandle" ∧ (parseMethodDescriptor yX0_wagonsAtPlatform.desc).map (fun d => d.parameters.length) = some 2 := by decide +kernel
theorem ml_RX0_143 : MLp RX0 143 yX0_wagonsAtPlatform cX0_wagonsAtPlatform 5 (some .int) 2 := ⟨(inT_5 122 rfl rfl), in_yX0_wagonsAtPlatform, co_yX0_wagonsAtPlatform, pm_yX0_wagonsAtPlatform⟩
theorem mv_yX0_wagonsAtPlatform : MVp yX0_wagonsAtPlatform := ⟨(inT_5 57 rfl rfl), (inT_5 58 rfl rfl)⟩
theorem in_yX0_mostLoads : Cond.initialized yX0_mostLoads.cls ∈ UU := (inT_1 10 rfl rfl)
theorem co_yX0_mostLoads : Cond.code yX0_mostLoads cX0_mostLoads 7 (some .int) ∈ UU := (inT_5 126 rfl rfl)
theorem pm_yX0_mostLoads : yX0_mostLoads.cls ≠ "java/lang/invoke/MethodHandle" ∧ yX0_mostLoads.cls ≠ "java/lang/invoke/VarHandle" ∧ (parseMethodDescriptor yX0_mostLoads.desc).map (fun d => d.parameters.length) = some 2 := by decide +kernel
theorem ml_RX0_150 : MLp RX0 150 yX0_mostLoads cX0_mostLoads 7 (some .int) 2 := ⟨(inT_5 123 rfl rfl), in_yX0_mostLoads, co_yX0_mostLoads, pm_yX0_mostLoads⟩
theorem mv_yX0_mostLoads : MVp yX0_mostLoads := ⟨(inT_5 125 rfl rfl), (inP_3 4 rfl rfl rfl)⟩
theorem in_yX0_leastCarrier : Cond.initialized yX0_leastCarrier.cls ∈ UU := (inT_1 10 rfl rfl)
theorem co_yX0_leastCarrier : Cond.code yX0_leastCarrier cX0_leastCarrier 5 (some .int) ∈ UU := (inT_5 130 rfl rfl)
theorem pm_yX0_leastCarrier : yX0_leastCarrier.cls ≠ "java/lang/invoke/MethodHandle" ∧ yX0_leastCarrier.cls ≠ "java/lang/invoke/VarHandle" ∧ (parseMethodDescriptor yX0_leastCarrier.desc).map (fun d => d.parameters.length) = some 3 := by decide +kernel
theorem ml_RX0_153 : MLp RX0 153 yX0_leastCarrier cX0_leastCarrier 5 (some .int) 3 := ⟨(inT_5 127 rfl rfl), in_yX0_leastCarrier, co_yX0_leastCarrier, pm_yX0_leastCarrier⟩
theorem mv_yX0_leastCarrier : MVp yX0_leastCarrier := ⟨(inT_5 129 rfl rfl), (inP_3 5 rfl rfl rfl)⟩
theorem in_yX8_travel : Cond.initialized yX8_travel.cls ∈ UU := (inT_1 8 rfl rfl)
theorem co_yX8_travel : Cond.code yX8_travel cX8_travel 3 none ∈ UU := (inT_4 172 rfl rfl)
theorem pm_yX8_travel : yX8_travel.cls ≠ "java/lang/invoke/MethodHandle" ∧ yX8_travel.cls ≠ "java/lang/invoke/VarHandle" ∧ (parseMethodDescriptor yX8_travel.desc).map (fun d => d.parameters.length) = some 2 := by decide +kernel
theorem ml_RX0_25 : MLp RX0 25 yX8_travel cX8_travel 3 none 2 := ⟨(inT_4 169 rfl rfl), in_yX8_travel, co_yX8_travel, pm_yX8_travel⟩
theorem mv_yX8_travel : MVp yX8_travel := ⟨(inT_4 170 rfl rfl), (inT_4 171 rfl rfl)⟩
theorem in_yX8_measure : Cond.initialized yX8_measure.cls ∈ UU := (inT_1 8 rfl rfl)
theorem co_yX8_measure : Cond.code yX8_measure cX8_measure 5 (some .int) ∈ UU := (inT_4 69 rfl rfl)
theorem pm_yX8_measure : yX8_measure.cls ≠ "java/lang/invoke/MethodHandle" ∧ yX8_measure.cls ≠ "java/lang/invoke/VarHandle" ∧ (parseMethodDescriptor yX8_measure.desc).map (fun d => d.parameters.length) = some 1 := by decide +kernel
theorem ml_RX0_33 : MLp RX0 33 yX8_measure cX8_measure 5 (some .int) 1 := ⟨(inT_4 179 rfl rfl), in_yX8_measure, co_yX8_measure, pm_yX8_measure⟩
theorem mv_yX8_measure : MVp yX8_measure := ⟨(inT_4 67 rfl rfl), (inT_4 68 rfl rfl)⟩
theorem in_yX8_takeOn : Cond.initialized yX8_takeOn.cls ∈ UU := (inT_1 8 rfl rfl)
theorem co_yX8_takeOn : Cond.code yX8_takeOn cX8_takeOn 3 none ∈ UU := (inT_4 123 rfl rfl)
theorem pm_yX8_takeOn : yX8_takeOn.cls ≠ "java/lang/invoke/MethodHandle" ∧ yX8_takeOn.cls ≠ "java/lang/invoke/VarHandle" ∧ (parseMethodDescriptor yX8_takeOn.desc).map (fun d => d.parameters.length) = some 1 := by decide +kernel
theorem ml_RX0_52 : MLp RX0 52 yX8_takeOn cX8_takeOn 3 none 1 := ⟨(inT_4 144 rfl rfl), in_yX8_takeOn, co_yX8_takeOn, pm_yX8_takeOn⟩
theorem mv_yX8_takeOn : MVp yX8_takeOn := ⟨(inT_4 121 rfl rfl), (inT_4 122 rfl rfl)⟩
theorem in_yX8_begin : Cond.initialized yX8_begin.cls ∈ UU := (inT_1 8 rfl rfl)
theorem co_yX8_begin : Cond.code yX8_begin cX8_begin 3 none ∈ UU := (inT_4 23 rfl rfl)
theorem pm_yX8_begin : yX8_begin.cls ≠ "java/lang/invoke/MethodHandle" ∧ yX8_begin.cls ≠ "java/lang/invoke/VarHandle" ∧ (parseMethodDescriptor yX8_begin.desc).map (fun d => d.parameters.length) = some 1 := by decide +kernel
theorem ml_RX0_59 : MLp RX0 59 yX8_begin cX8_begin 3 none 1 := ⟨(inT_4 143 rfl rfl), in_yX8_begin, co_yX8_begin, pm_yX8_begin⟩
theorem mv_yX8_begin : MVp yX8_begin := ⟨(inT_4 21 rfl rfl), (inT_4 22 rfl rfl)⟩
theorem in_yX0_start : Cond.initialized yX0_start.cls ∈ UU := (inT_1 10 rfl rfl)
theorem co_yX0_start : Cond.code yX0_start cX0_start 3 none ∈ UU := (inT_4 168 rfl rfl)
theorem pm_yX0_start : yX0_start.cls ≠ "java/lang/invoke/MethodHandle" ∧ yX0_start.cls ≠ "java/lang/invoke/VarHandle" ∧ (parseMethodDescriptor yX0_start.desc).map (fun d => d.parameters.length) = some 2 := by decide +kernel
theorem ml_RX0_73 : MLp RX0 73 yX0_start cX0_start 3 none 2 := ⟨(inT_4 165 rfl rfl), in_yX0_start, co_yX0_start, pm_yX0_start⟩
theorem mv_yX0_start : MVp yX0_start := ⟨(inT_4 167 rfl rfl), (inP_2 4 rfl rfl rfl)⟩
theorem in_yX0_gainAt : Cond.initialized yX0_gainAt.cls ∈ UU := (inT_1 10 rfl rfl)
theorem co_yX0_gainAt : Cond.code yX0_gainAt cX0_gainAt 3 (some .int) ∈ UU := (inT_4 178 rfl rfl)
theorem pm_yX0_gainAt : yX0_gainAt.cls ≠ "java/lang/invoke/MethodHandle" ∧ yX0_gainAt.cls ≠ "java/lang/invoke/VarHandle" ∧ (parseMethodDescriptor yX0_gainAt.desc).map (fun d => d.parameters.length) = some 2 := by decide +kernel
theorem ml_RX0_76 : MLp RX0 76 yX0_gainAt cX0_gainAt 3 (some .int) 2 := ⟨(inT_4 175 rfl rfl), in_yX0_gainAt, co_yX0_gainAt, pm_yX0_gainAt⟩
theorem mv_yX0_gainAt : MVp yX0_gainAt := ⟨(inT_4 177 rfl rfl), (inP_2 5 rfl rfl rfl)⟩
theorem in_yX8_help : Cond.initialized yX8_help.cls ∈ UU := (inT_1 8 rfl rfl)
theorem co_yX8_help : Cond.code yX8_help cX8_help 3 none ∈ UU := (inT_4 208 rfl rfl)
theorem pm_yX8_help : yX8_help.cls ≠ "java/lang/invoke/MethodHandle" ∧ yX8_help.cls ≠ "java/lang/invoke/VarHandle" ∧ (parseMethodDescriptor yX8_help.desc).map (fun d => d.parameters.length) = some 2 := by decide +kernel
theorem ml_RX0_89 : MLp RX0 89 yX8_help cX8_help 3 none 2 := ⟨(inT_4 205 rfl rfl), in_yX8_help, co_yX8_help, pm_yX8_help⟩
theorem mv_yX8_help : MVp yX8_help := ⟨(inT_4 206 rfl rfl), (inT_4 207 rfl rfl)⟩
theorem in_yX0_comesUnbroken : Cond.initialized yX0_comesUnbroken.cls ∈ UU := (inT_1 10 rfl rfl)
theorem co_yX0_comesUnbroken : Cond.code yX0_comesUnbroken cX0_comesUnbroken 7 (some .boolean) ∈ UU := (inT_4 212 rfl rfl)
theorem pm_yX0_comesUnbroken : yX0_comesUnbroken.cls ≠ "java/lang/invoke/MethodHandle" ∧ yX0_comesUnbroken.cls ≠ "java/lang/invoke/VarHandle" ∧ (parseMethodDescriptor yX0_comesUnbroken.desc).map (fun d => d.parameters.length) = some 4 := by decide +kernel
theorem ml_RX0_93 : MLp RX0 93 yX0_comesUnbroken cX0_comesUnbroken 7 (some .boolean) 4 := ⟨(inT_4 209 rfl rfl), in_yX0_comesUnbroken, co_yX0_comesUnbroken, pm_yX0_comesUnbroken⟩
theorem mv_yX0_comesUnbroken : MVp yX0_comesUnbroken := ⟨(inT_4 211 rfl rfl), (inP_2 6 rfl rfl rfl)⟩
theorem in_yX8_isOverborne : Cond.initialized yX8_isOverborne.cls ∈ UU := (inT_1 8 rfl rfl)
theorem co_yX8_isOverborne : Cond.code yX8_isOverborne cX8_isOverborne 2 (some .boolean) ∈ UU := (inT_4 216 rfl rfl)
theorem pm_yX8_isOverborne : yX8_isOverborne.cls ≠ "java/lang/invoke/MethodHandle" ∧ yX8_isOverborne.cls ≠ "java/lang/invoke/VarHandle" ∧ (parseMethodDescriptor yX8_isOverborne.desc).map (fun d => d.parameters.length) = some 0 := by decide +kernel
theorem ml_RX0_97 : MLp RX0 97 yX8_isOverborne cX8_isOverborne 2 (some .boolean) 0 := ⟨(inT_4 213 rfl rfl), in_yX8_isOverborne, co_yX8_isOverborne, pm_yX8_isOverborne⟩
theorem mv_yX8_isOverborne : MVp yX8_isOverborne := ⟨(inT_4 214 rfl rfl), (inT_4 215 rfl rfl)⟩
theorem in_yX8_foremostUnit : Cond.initialized yX8_foremostUnit.cls ∈ UU := (inT_1 8 rfl rfl)
theorem co_yX8_foremostUnit : Cond.code yX8_foremostUnit cX8_foremostUnit 4 (some .int) ∈ UU := (inT_4 111 rfl rfl)
theorem pm_yX8_foremostUnit : yX8_foremostUnit.cls ≠ "java/lang/invoke/MethodHandle" ∧ yX8_foremostUnit.cls ≠ "java/lang/invoke/VarHandle" ∧ (parseMethodDescriptor yX8_foremostUnit.desc).map (fun d => d.parameters.length) = some 1 := by decide +kernel
theorem ml_RX1_40 : MLp RX1 40 yX8_foremostUnit cX8_foremostUnit 4 (some .int) 1 := ⟨(inT_4 108 rfl rfl), in_yX8_foremostUnit, co_yX8_foremostUnit, pm_yX8_foremostUnit⟩
theorem mv_yX8_foremostUnit : MVp yX8_foremostUnit := ⟨(inT_4 109 rfl rfl), (inT_4 110 rfl rfl)⟩
theorem in_yX3_longOf : Cond.initialized yX3_longOf.cls ∈ UU := (inT_1 5 rfl rfl)
theorem co_yX3_longOf : Cond.code yX3_longOf cX3_longOf 2 (some .int) ∈ UU := (inT_4 36 rfl rfl)
theorem pm_yX3_longOf : yX3_longOf.cls ≠ "java/lang/invoke/MethodHandle" ∧ yX3_longOf.cls ≠ "java/lang/invoke/VarHandle" ∧ (parseMethodDescriptor yX3_longOf.desc).map (fun d => d.parameters.length) = some 1 := by decide +kernel
theorem ml_RX1_45 : MLp RX1 45 yX3_longOf cX3_longOf 2 (some .int) 1 := ⟨(inT_6 153 rfl rfl), in_yX3_longOf, co_yX3_longOf, pm_yX3_longOf⟩
theorem mv_yX3_longOf : MVp yX3_longOf := ⟨(inT_4 34 rfl rfl), (inT_4 35 rfl rfl)⟩
theorem in_yX3_weightOf : Cond.initialized yX3_weightOf.cls ∈ UU := (inT_1 5 rfl rfl)
theorem co_yX3_weightOf : Cond.code yX3_weightOf cX3_weightOf 2 (some .int) ∈ UU := (inT_4 40 rfl rfl)
theorem pm_yX3_weightOf : yX3_weightOf.cls ≠ "java/lang/invoke/MethodHandle" ∧ yX3_weightOf.cls ≠ "java/lang/invoke/VarHandle" ∧ (parseMethodDescriptor yX3_weightOf.desc).map (fun d => d.parameters.length) = some 1 := by decide +kernel
theorem ml_RX1_50 : MLp RX1 50 yX3_weightOf cX3_weightOf 2 (some .int) 1 := ⟨(inT_6 163 rfl rfl), in_yX3_weightOf, co_yX3_weightOf, pm_yX3_weightOf⟩
theorem mv_yX3_weightOf : MVp yX3_weightOf := ⟨(inT_4 38 rfl rfl), (inT_4 39 rfl rfl)⟩
theorem in_yX3_dragOf : Cond.initialized yX3_dragOf.cls ∈ UU := (inT_1 5 rfl rfl)
theorem co_yX3_dragOf : Cond.code yX3_dragOf cX3_dragOf 3 (some .int) ∈ UU := (inT_4 77 rfl rfl)
theorem pm_yX3_dragOf : yX3_dragOf.cls ≠ "java/lang/invoke/MethodHandle" ∧ yX3_dragOf.cls ≠ "java/lang/invoke/VarHandle" ∧ (parseMethodDescriptor yX3_dragOf.desc).map (fun d => d.parameters.length) = some 2 := by decide +kernel
theorem ml_RX1_53 : MLp RX1 53 yX3_dragOf cX3_dragOf 3 (some .int) 2 := ⟨(inT_6 164 rfl rfl), in_yX3_dragOf, co_yX3_dragOf, pm_yX3_dragOf⟩
theorem mv_yX3_dragOf : MVp yX3_dragOf := ⟨(inT_4 75 rfl rfl), (inT_4 76 rfl rfl)⟩
theorem ml_RX10_25 : MLp RX10 25 yX8_begin cX8_begin 3 none 1 := ⟨(inT_4 20 rfl rfl), in_yX8_begin, co_yX8_begin, pm_yX8_begin⟩
theorem in_yX1_clear : Cond.initialized yX1_clear.cls ∈ UU := (inT_1 9 rfl rfl)
theorem co_yX1_clear : Cond.code yX1_clear cX1_clear 1 none ∈ UU := (inT_4 48 rfl rfl)
theorem pm_yX1_clear : yX1_clear.cls ≠ "java/lang/invoke/MethodHandle" ∧ yX1_clear.cls ≠ "java/lang/invoke/VarHandle" ∧ (parseMethodDescriptor yX1_clear.desc).map (fun d => d.parameters.length) = some 0 := by decide +kernel
theorem ml_RX10_29 : MLp RX10 29 yX1_clear cX1_clear 1 none 0 := ⟨(inT_4 45 rfl rfl), in_yX1_clear, co_yX1_clear, pm_yX1_clear⟩
theorem mv_yX1_clear : MVp yX1_clear := ⟨(inT_4 46 rfl rfl), (inT_4 47 rfl rfl)⟩
theorem in_yX8_copyFrom : Cond.initialized yX8_copyFrom.cls ∈ UU := (inT_1 8 rfl rfl)
theorem co_yX8_copyFrom : Cond.code yX8_copyFrom cX8_copyFrom 2 none ∈ UU := (inT_5 20 rfl rfl)
theorem pm_yX8_copyFrom : yX8_copyFrom.cls ≠ "java/lang/invoke/MethodHandle" ∧ yX8_copyFrom.cls ≠ "java/lang/invoke/VarHandle" ∧ (parseMethodDescriptor yX8_copyFrom.desc).map (fun d => d.parameters.length) = some 1 := by decide +kernel
theorem ml_RX10_36 : MLp RX10 36 yX8_copyFrom cX8_copyFrom 2 none 1 := ⟨(inT_5 212 rfl rfl), in_yX8_copyFrom, co_yX8_copyFrom, pm_yX8_copyFrom⟩
theorem mv_yX8_copyFrom : MVp yX8_copyFrom := ⟨(inT_5 18 rfl rfl), (inT_5 19 rfl rfl)⟩
theorem in_yX1_copyFrom : Cond.initialized yX1_copyFrom.cls ∈ UU := (inT_1 9 rfl rfl)
theorem co_yX1_copyFrom : Cond.code yX1_copyFrom cX1_copyFrom 2 none ∈ UU := (inT_5 216 rfl rfl)
theorem pm_yX1_copyFrom : yX1_copyFrom.cls ≠ "java/lang/invoke/MethodHandle" ∧ yX1_copyFrom.cls ≠ "java/lang/invoke/VarHandle" ∧ (parseMethodDescriptor yX1_copyFrom.desc).map (fun d => d.parameters.length) = some 1 := by decide +kernel
theorem ml_RX10_40 : MLp RX10 40 yX1_copyFrom cX1_copyFrom 2 none 1 := ⟨(inT_5 213 rfl rfl), in_yX1_copyFrom, co_yX1_copyFrom, pm_yX1_copyFrom⟩
theorem mv_yX1_copyFrom : MVp yX1_copyFrom := ⟨(inT_5 214 rfl rfl), (inT_5 215 rfl rfl)⟩
theorem ml_RX10_54 : MLp RX10 54 yX8_measure cX8_measure 5 (some .int) 1 := ⟨(inT_4 91 rfl rfl), in_yX8_measure, co_yX8_measure, pm_yX8_measure⟩
theorem in_yX8_partingPlace : Cond.initialized yX8_partingPlace.cls ∈ UU := (inT_1 8 rfl rfl)
theorem co_yX8_partingPlace : Cond.code yX8_partingPlace cX8_partingPlace 3 (some .int) ∈ UU := (inT_4 95 rfl rfl)
theorem pm_yX8_partingPlace : yX8_partingPlace.cls ≠ "java/lang/invoke/MethodHandle" ∧ yX8_partingPlace.cls ≠ "java/lang/invoke/VarHandle" ∧ (parseMethodDescriptor yX8_partingPlace.desc).map (fun d => d.parameters.length) = some 1 := by decide +kernel
theorem ml_RX10_64 : MLp RX10 64 yX8_partingPlace cX8_partingPlace 3 (some .int) 1 := ⟨(inT_4 92 rfl rfl), in_yX8_partingPlace, co_yX8_partingPlace, pm_yX8_partingPlace⟩
theorem mv_yX8_partingPlace : MVp yX8_partingPlace := ⟨(inT_4 93 rfl rfl), (inT_4 94 rfl rfl)⟩
theorem in_yX8_addWear : Cond.initialized yX8_addWear.cls ∈ UU := (inT_1 8 rfl rfl)
theorem co_yX8_addWear : Cond.code yX8_addWear cX8_addWear 3 none ∈ UU := (inT_4 99 rfl rfl)
theorem pm_yX8_addWear : yX8_addWear.cls ≠ "java/lang/invoke/MethodHandle" ∧ yX8_addWear.cls ≠ "java/lang/invoke/VarHandle" ∧ (parseMethodDescriptor yX8_addWear.desc).map (fun d => d.parameters.length) = some 1 := by decide +kernel
theorem ml_RX10_71 : MLp RX10 71 yX8_addWear cX8_addWear 3 none 1 := ⟨(inT_4 96 rfl rfl), in_yX8_addWear, co_yX8_addWear, pm_yX8_addWear⟩
theorem mv_yX8_addWear : MVp yX8_addWear := ⟨(inT_4 97 rfl rfl), (inT_4 98 rfl rfl)⟩
theorem in_yX10_part : Cond.initialized yX10_part.cls ∈ UU := (inT_1 7 rfl rfl)
theorem co_yX10_part : Cond.code yX10_part cX10_part 2 none ∈ UU := (inT_4 103 rfl rfl)
theorem pm_yX10_part : yX10_part.cls ≠ "java/lang/invoke/MethodHandle" ∧ yX10_part.cls ≠ "java/lang/invoke/VarHandle" ∧ (parseMethodDescriptor yX10_part.desc).map (fun d => d.parameters.length) = some 1 := by decide +kernel
theorem ml_RX10_75 : MLp RX10 75 yX10_part cX10_part 2 none 1 := ⟨(inT_4 100 rfl rfl), in_yX10_part, co_yX10_part, pm_yX10_part⟩
theorem mv_yX10_part : MVp yX10_part := ⟨(inT_4 101 rfl rfl), (inT_4 102 rfl rfl)⟩
theorem ml_RX10_78 : MLp RX10 78 yX8_takeOn cX8_takeOn 3 none 1 := ⟨(inT_4 120 rfl rfl), in_yX8_takeOn, co_yX8_takeOn, pm_yX8_takeOn⟩
theorem in_yX1_add : Cond.initialized yX1_add.cls ∈ UU := (inT_1 9 rfl rfl)
theorem co_yX1_add : Cond.code yX1_add cX1_add 5 none ∈ UU := (inT_4 107 rfl rfl)
theorem pm_yX1_add : yX1_add.cls ≠ "java/lang/invoke/MethodHandle" ∧ yX1_add.cls ≠ "java/lang/invoke/VarHandle" ∧ (parseMethodDescriptor yX1_add.desc).map (fun d => d.parameters.length) = some 2 := by decide +kernel
theorem ml_RX10_81 : MLp RX10 81 yX1_add cX1_add 5 none 2 := ⟨(inT_4 104 rfl rfl), in_yX1_add, co_yX1_add, pm_yX1_add⟩
theorem mv_yX1_add : MVp yX1_add := ⟨(inT_4 105 rfl rfl), (inT_4 106 rfl rfl)⟩
theorem in_yX8_dropFrom : Cond.initialized yX8_dropFrom.cls ∈ UU := (inT_1 8 rfl rfl)
theorem co_yX8_dropFrom : Cond.code yX8_dropFrom cX8_dropFrom 3 none ∈ UU := (inT_4 115 rfl rfl)
theorem pm_yX8_dropFrom : yX8_dropFrom.cls ≠ "java/lang/invoke/MethodHandle" ∧ yX8_dropFrom.cls ≠ "java/lang/invoke/VarHandle" ∧ (parseMethodDescriptor yX8_dropFrom.desc).map (fun d => d.parameters.length) = some 1 := by decide +kernel
theorem ml_RX10_85 : MLp RX10 85 yX8_dropFrom cX8_dropFrom 3 none 1 := ⟨(inT_4 112 rfl rfl), in_yX8_dropFrom, co_yX8_dropFrom, pm_yX8_dropFrom⟩
theorem mv_yX8_dropFrom : MVp yX8_dropFrom := ⟨(inT_4 113 rfl rfl), (inT_4 114 rfl rfl)⟩
theorem in_yX10_begin : Cond.initialized yX10_begin.cls ∈ UU := (inT_1 7 rfl rfl)
theorem co_yX10_begin : Cond.code yX10_begin cX10_begin 2 none ∈ UU := (inT_4 19 rfl rfl)
theorem pm_yX10_begin : yX10_begin.cls ≠ "java/lang/invoke/MethodHandle" ∧ yX10_begin.cls ≠ "java/lang/invoke/VarHandle" ∧ (parseMethodDescriptor yX10_begin.desc).map (fun d => d.parameters.length) = some 1 := by decide +kernel
theorem ml_RX11_111 : MLp RX11 111 yX10_begin cX10_begin 2 none 1 := ⟨(inT_4 16 rfl rfl), in_yX10_begin, co_yX10_begin, pm_yX10_begin⟩
theorem mv_yX10_begin : MVp yX10_begin := ⟨(inT_4 17 rfl rfl), (inT_4 18 rfl rfl)⟩
theorem in_yX6_clear : Cond.initialized yX6_clear.cls ∈ UU := (inT_1 6 rfl rfl)
theorem co_yX6_clear : Cond.code yX6_clear cX6_clear 1 none ∈ UU := (inT_4 52 rfl rfl)
theorem pm_yX6_clear : yX6_clear.cls ≠ "java/lang/invoke/MethodHandle" ∧ yX6_clear.cls ≠ "java/lang/invoke/VarHandle" ∧ (parseMethodDescriptor yX6_clear.desc).map (fun d => d.parameters.length) = some 0 := by decide +kernel
theorem ml_RX11_118 : MLp RX11 118 yX6_clear cX6_clear 1 none 0 := ⟨(inT_4 49 rfl rfl), in_yX6_clear, co_yX6_clear, pm_yX6_clear⟩
theorem mv_yX6_clear : MVp yX6_clear := ⟨(inT_4 50 rfl rfl), (inT_4 51 rfl rfl)⟩
theorem in_yX3_gradeOf : Cond.initialized yX3_gradeOf.cls ∈ UU := (inT_1 5 rfl rfl)
theorem co_yX3_gradeOf : Cond.code yX3_gradeOf cX3_gradeOf 2 (some .int) ∈ UU := (inT_4 73 rfl rfl)
theorem pm_yX3_gradeOf : yX3_gradeOf.cls ≠ "java/lang/invoke/MethodHandle" ∧ yX3_gradeOf.cls ≠ "java/lang/invoke/VarHandle" ∧ (parseMethodDescriptor yX3_gradeOf.desc).map (fun d => d.parameters.length) = some 1 := by decide +kernel
theorem ml_RX11_127 : MLp RX11 127 yX3_gradeOf cX3_gradeOf 2 (some .int) 1 := ⟨(inT_6 113 rfl rfl), in_yX3_gradeOf, co_yX3_gradeOf, pm_yX3_gradeOf⟩
theorem mv_yX3_gradeOf : MVp yX3_gradeOf := ⟨(inT_4 71 rfl rfl), (inT_4 72 rfl rfl)⟩
theorem in_yX11_isHalt : Cond.initialized yX11_isHalt.cls ∈ UU := (inT_1 1 rfl rfl)
theorem co_yX11_isHalt : Cond.code yX11_isHalt cX11_isHalt 2 (some .boolean) ∈ UU := (inT_5 55 rfl rfl)
theorem pm_yX11_isHalt : yX11_isHalt.cls ≠ "java/lang/invoke/MethodHandle" ∧ yX11_isHalt.cls ≠ "java/lang/invoke/VarHandle" ∧ (parseMethodDescriptor yX11_isHalt.desc).map (fun d => d.parameters.length) = some 1 := by decide +kernel
theorem ml_RX11_131 : MLp RX11 131 yX11_isHalt cX11_isHalt 2 (some .boolean) 1 := ⟨(inT_5 52 rfl rfl), in_yX11_isHalt, co_yX11_isHalt, pm_yX11_isHalt⟩
theorem mv_yX11_isHalt : MVp yX11_isHalt := ⟨(inT_5 54 rfl rfl), (inP_2 13 rfl rfl rfl)⟩
theorem in_yX11_isKind : Cond.initialized yX11_isKind.cls ∈ UU := (inT_1 1 rfl rfl)
theorem co_yX11_isKind : Cond.code yX11_isKind cX11_isKind 2 (some .boolean) ∈ UU := (inT_5 149 rfl rfl)
theorem pm_yX11_isKind : yX11_isKind.cls ≠ "java/lang/invoke/MethodHandle" ∧ yX11_isKind.cls ≠ "java/lang/invoke/VarHandle" ∧ (parseMethodDescriptor yX11_isKind.desc).map (fun d => d.parameters.length) = some 1 := by decide +kernel
theorem ml_RX11_141 : MLp RX11 141 yX11_isKind cX11_isKind 2 (some .boolean) 1 := ⟨(inT_5 146 rfl rfl), in_yX11_isKind, co_yX11_isKind, pm_yX11_isKind⟩
theorem mv_yX11_isKind : MVp yX11_isKind := ⟨(inT_5 148 rfl rfl), (inP_3 6 rfl rfl rfl)⟩
theorem in_yX8_weightOfAll : Cond.initialized yX8_weightOfAll.cls ∈ UU := (inT_1 8 rfl rfl)
theorem co_yX8_weightOfAll : Cond.code yX8_weightOfAll cX8_weightOfAll 3 (some .int) ∈ UU := (inT_4 65 rfl rfl)
theorem pm_yX8_weightOfAll : yX8_weightOfAll.cls ≠ "java/lang/invoke/MethodHandle" ∧ yX8_weightOfAll.cls ≠ "java/lang/invoke/VarHandle" ∧ (parseMethodDescriptor yX8_weightOfAll.desc).map (fun d => d.parameters.length) = some 0 := by decide +kernel
theorem ml_RX11_171 : MLp RX11 171 yX8_weightOfAll cX8_weightOfAll 3 (some .int) 0 := ⟨(inT_4 62 rfl rfl), in_yX8_weightOfAll, co_yX8_weightOfAll, pm_yX8_weightOfAll⟩
theorem mv_yX8_weightOfAll : MVp yX8_weightOfAll := ⟨(inT_4 63 rfl rfl), (inT_4 64 rfl rfl)⟩
theorem ml_RX11_174 : MLp RX11 174 yX8_measure cX8_measure 5 (some .int) 1 := ⟨(inT_4 66 rfl rfl), in_yX8_measure, co_yX8_measure, pm_yX8_measure⟩
theorem in_yX8_helperCount : Cond.initialized yX8_helperCount.cls ∈ UU := (inT_1 8 rfl rfl)
theorem co_yX8_helperCount : Cond.code yX8_helperCount cX8_helperCount 3 (some .int) ∈ UU := (inT_4 82 rfl rfl)
theorem pm_yX8_helperCount : yX8_helperCount.cls ≠ "java/lang/invoke/MethodHandle" ∧ yX8_helperCount.cls ≠ "java/lang/invoke/VarHandle" ∧ (parseMethodDescriptor yX8_helperCount.desc).map (fun d => d.parameters.length) = some 0 := by decide +kernel
theorem ml_RX11_178 : MLp RX11 178 yX8_helperCount cX8_helperCount 3 (some .int) 0 := ⟨(inT_4 79 rfl rfl), in_yX8_helperCount, co_yX8_helperCount, pm_yX8_helperCount⟩
theorem mv_yX8_helperCount : MVp yX8_helperCount := ⟨(inT_4 80 rfl rfl), (inT_4 81 rfl rfl)⟩
theorem ml_RX11_189 : MLp RX11 189 yX8_foremostUnit cX8_foremostUnit 4 (some .int) 1 := ⟨(inT_6 135 rfl rfl), in_yX8_foremostUnit, co_yX8_foremostUnit, pm_yX8_foremostUnit⟩
theorem in_yX8_borneBy : Cond.initialized yX8_borneBy.cls ∈ UU := (inT_1 8 rfl rfl)
theorem co_yX8_borneBy : Cond.code yX8_borneBy cX8_borneBy 3 (some .int) ∈ UU := (inT_6 139 rfl rfl)
theorem pm_yX8_borneBy : yX8_borneBy.cls ≠ "java/lang/invoke/MethodHandle" ∧ yX8_borneBy.cls ≠ "java/lang/invoke/VarHandle" ∧ (parseMethodDescriptor yX8_borneBy.desc).map (fun d => d.parameters.length) = some 2 := by decide +kernel
theorem ml_RX11_192 : MLp RX11 192 yX8_borneBy cX8_borneBy 3 (some .int) 2 := ⟨(inT_6 136 rfl rfl), in_yX8_borneBy, co_yX8_borneBy, pm_yX8_borneBy⟩
theorem mv_yX8_borneBy : MVp yX8_borneBy := ⟨(inT_6 137 rfl rfl), (inT_6 138 rfl rfl)⟩
theorem ml_RX11_202 : MLp RX11 202 yX3_dragOf cX3_dragOf 3 (some .int) 2 := ⟨(inT_6 141 rfl rfl), in_yX3_dragOf, co_yX3_dragOf, pm_yX3_dragOf⟩
theorem in_yX1_unitsOf : Cond.initialized yX1_unitsOf.cls ∈ UU := (inT_1 9 rfl rfl)
theorem co_yX1_unitsOf : Cond.code yX1_unitsOf cX1_unitsOf 5 (some .int) ∈ UU := (inT_6 152 rfl rfl)
theorem pm_yX1_unitsOf : yX1_unitsOf.cls ≠ "java/lang/invoke/MethodHandle" ∧ yX1_unitsOf.cls ≠ "java/lang/invoke/VarHandle" ∧ (parseMethodDescriptor yX1_unitsOf.desc).map (fun d => d.parameters.length) = some 2 := by decide +kernel
theorem ml_RX11_211 : MLp RX11 211 yX1_unitsOf cX1_unitsOf 5 (some .int) 2 := ⟨(inT_6 149 rfl rfl), in_yX1_unitsOf, co_yX1_unitsOf, pm_yX1_unitsOf⟩
theorem mv_yX1_unitsOf : MVp yX1_unitsOf := ⟨(inT_6 150 rfl rfl), (inT_6 151 rfl rfl)⟩
theorem in_yX3_haltBehind : Cond.initialized yX3_haltBehind.cls ∈ UU := (inT_1 5 rfl rfl)
theorem co_yX3_haltBehind : Cond.code yX3_haltBehind cX3_haltBehind 3 (some .int) ∈ UU := (inT_6 157 rfl rfl)
theorem pm_yX3_haltBehind : yX3_haltBehind.cls ≠ "java/lang/invoke/MethodHandle" ∧ yX3_haltBehind.cls ≠ "java/lang/invoke/VarHandle" ∧ (parseMethodDescriptor yX3_haltBehind.desc).map (fun d => d.parameters.length) = some 1 := by decide +kernel
theorem ml_RX11_214 : MLp RX11 214 yX3_haltBehind cX3_haltBehind 3 (some .int) 1 := ⟨(inT_6 154 rfl rfl), in_yX3_haltBehind, co_yX3_haltBehind, pm_yX3_haltBehind⟩
theorem mv_yX3_haltBehind : MVp yX3_haltBehind := ⟨(inT_6 155 rfl rfl), (inT_6 156 rfl rfl)⟩
theorem in_yX1_dragOf : Cond.initialized yX1_dragOf.cls ∈ UU := (inT_1 9 rfl rfl)
theorem co_yX1_dragOf : Cond.code yX1_dragOf cX1_dragOf 7 (some .int) ∈ UU := (inT_6 162 rfl rfl)
theorem pm_yX1_dragOf : yX1_dragOf.cls ≠ "java/lang/invoke/MethodHandle" ∧ yX1_dragOf.cls ≠ "java/lang/invoke/VarHandle" ∧ (parseMethodDescriptor yX1_dragOf.desc).map (fun d => d.parameters.length) = some 2 := by decide +kernel
theorem ml_RX11_217 : MLp RX11 217 yX1_dragOf cX1_dragOf 7 (some .int) 2 := ⟨(inT_6 159 rfl rfl), in_yX1_dragOf, co_yX1_dragOf, pm_yX1_dragOf⟩
theorem mv_yX1_dragOf : MVp yX1_dragOf := ⟨(inT_6 160 rfl rfl), (inT_6 161 rfl rfl)⟩
theorem in_yX10_move : Cond.initialized yX10_move.cls ∈ UU := (inT_1 7 rfl rfl)
theorem co_yX10_move : Cond.code yX10_move cX10_move 5 (some .int) ∈ UU := (inT_4 90 rfl rfl)
theorem pm_yX10_move : yX10_move.cls ≠ "java/lang/invoke/MethodHandle" ∧ yX10_move.cls ≠ "java/lang/invoke/VarHandle" ∧ (parseMethodDescriptor yX10_move.desc).map (fun d => d.parameters.length) = some 2 := by decide +kernel
theorem ml_RX11_219 : MLp RX11 219 yX10_move cX10_move 5 (some .int) 2 := ⟨(inT_4 87 rfl rfl), in_yX10_move, co_yX10_move, pm_yX10_move⟩
theorem mv_yX10_move : MVp yX10_move := ⟨(inT_4 88 rfl rfl), (inT_4 89 rfl rfl)⟩
theorem in_yX11_borne : Cond.initialized yX11_borne.cls ∈ UU := (inT_1 1 rfl rfl)
theorem co_yX11_borne : Cond.code yX11_borne cX11_borne 5 (some .int) ∈ UU := (inT_6 175 rfl rfl)
theorem pm_yX11_borne : yX11_borne.cls ≠ "java/lang/invoke/MethodHandle" ∧ yX11_borne.cls ≠ "java/lang/invoke/VarHandle" ∧ (parseMethodDescriptor yX11_borne.desc).map (fun d => d.parameters.length) = some 4 := by decide +kernel
theorem ml_RX11_223 : MLp RX11 223 yX11_borne cX11_borne 5 (some .int) 4 := ⟨(inT_6 172 rfl rfl), in_yX11_borne, co_yX11_borne, pm_yX11_borne⟩
theorem mv_yX11_borne : MVp yX11_borne := ⟨(inT_6 174 rfl rfl), (inP_3 15 rfl rfl rfl)⟩
theorem in_yX11_isWay : Cond.initialized yX11_isWay.cls ∈ UU := (inT_1 1 rfl rfl)
theorem co_yX11_isWay : Cond.code yX11_isWay cX11_isWay 3 (some .boolean) ∈ UU := (inT_4 156 rfl rfl)
theorem pm_yX11_isWay : yX11_isWay.cls ≠ "java/lang/invoke/MethodHandle" ∧ yX11_isWay.cls ≠ "java/lang/invoke/VarHandle" ∧ (parseMethodDescriptor yX11_isWay.desc).map (fun d => d.parameters.length) = some 2 := by decide +kernel
theorem ml_RX11_227 : MLp RX11 227 yX11_isWay cX11_isWay 3 (some .boolean) 2 := ⟨(inT_4 153 rfl rfl), in_yX11_isWay, co_yX11_isWay, pm_yX11_isWay⟩
theorem mv_yX11_isWay : MVp yX11_isWay := ⟨(inT_4 155 rfl rfl), (inP_2 3 rfl rfl rfl)⟩
theorem in_yX0_findBorne : Cond.initialized yX0_findBorne.cls ∈ UU := (inT_1 10 rfl rfl)
theorem co_yX0_findBorne : Cond.code yX0_findBorne cX0_findBorne 9 (some .boolean) ∈ UU := (inT_6 179 rfl rfl)
theorem pm_yX0_findBorne : yX0_findBorne.cls ≠ "java/lang/invoke/MethodHandle" ∧ yX0_findBorne.cls ≠ "java/lang/invoke/VarHandle" ∧ (parseMethodDescriptor yX0_findBorne.desc).map (fun d => d.parameters.length) = some 4 := by decide +kernel
theorem ml_RX11_231 : MLp RX11 231 yX0_findBorne cX0_findBorne 9 (some .boolean) 4 := ⟨(inT_6 176 rfl rfl), in_yX0_findBorne, co_yX0_findBorne, pm_yX0_findBorne⟩
theorem mv_yX0_findBorne : MVp yX0_findBorne := ⟨(inT_6 177 rfl rfl), (inT_6 178 rfl rfl)⟩
theorem in_yX11_isUnit : Cond.initialized yX11_isUnit.cls ∈ UU := (inT_1 1 rfl rfl)
theorem co_yX11_isUnit : Cond.code yX11_isUnit cX11_isUnit 2 (some .boolean) ∈ UU := (inT_4 136 rfl rfl)
theorem pm_yX11_isUnit : yX11_isUnit.cls ≠ "java/lang/invoke/MethodHandle" ∧ yX11_isUnit.cls ≠ "java/lang/invoke/VarHandle" ∧ (parseMethodDescriptor yX11_isUnit.desc).map (fun d => d.parameters.length) = some 1 := by decide +kernel
theorem ml_RX11_244 : MLp RX11 244 yX11_isUnit cX11_isUnit 2 (some .boolean) 1 := ⟨(inT_4 133 rfl rfl), in_yX11_isUnit, co_yX11_isUnit, pm_yX11_isUnit⟩
theorem mv_yX11_isUnit : MVp yX11_isUnit := ⟨(inT_4 135 rfl rfl), (inP_2 2 rfl rfl rfl)⟩
theorem in_yX0_findSpan : Cond.initialized yX0_findSpan.cls ∈ UU := (inT_1 10 rfl rfl)
theorem co_yX0_findSpan : Cond.code yX0_findSpan cX0_findSpan 5 none ∈ UU := (inT_4 142 rfl rfl)
theorem pm_yX0_findSpan : yX0_findSpan.cls ≠ "java/lang/invoke/MethodHandle" ∧ yX0_findSpan.cls ≠ "java/lang/invoke/VarHandle" ∧ (parseMethodDescriptor yX0_findSpan.desc).map (fun d => d.parameters.length) = some 3 := by decide +kernel
theorem ml_RX11_256 : MLp RX11 256 yX0_findSpan cX0_findSpan 5 none 3 := ⟨(inT_4 139 rfl rfl), in_yX0_findSpan, co_yX0_findSpan, pm_yX0_findSpan⟩
theorem mv_yX0_findSpan : MVp yX0_findSpan := ⟨(inT_4 140 rfl rfl), (inT_4 141 rfl rfl)⟩
theorem in_yX0_climbed : Cond.initialized yX0_climbed.cls ∈ UU := (inT_1 10 rfl rfl)
theorem co_yX0_climbed : Cond.code yX0_climbed cX0_climbed 7 (some .int) ∈ UU := (inT_4 164 rfl rfl)
theorem pm_yX0_climbed : yX0_climbed.cls ≠ "java/lang/invoke/MethodHandle" ∧ yX0_climbed.cls ≠ "java/lang/invoke/VarHandle" ∧ (parseMethodDescriptor yX0_climbed.desc).map (fun d => d.parameters.length) = some 4 := by decide +kernel
theorem ml_RX11_272 : MLp RX11 272 yX0_climbed cX0_climbed 7 (some .int) 4 := ⟨(inT_4 161 rfl rfl), in_yX0_climbed, co_yX0_climbed, pm_yX0_climbed⟩
theorem mv_yX0_climbed : MVp yX0_climbed := ⟨(inT_4 162 rfl rfl), (inT_4 163 rfl rfl)⟩
theorem in_yX0_leastRunUp : Cond.initialized yX0_leastRunUp.cls ∈ UU := (inT_1 10 rfl rfl)
theorem co_yX0_leastRunUp : Cond.code yX0_leastRunUp cX0_leastRunUp 7 (some .int) ∈ UU := (inT_4 187 rfl rfl)
theorem pm_yX0_leastRunUp : yX0_leastRunUp.cls ≠ "java/lang/invoke/MethodHandle" ∧ yX0_leastRunUp.cls ≠ "java/lang/invoke/VarHandle" ∧ (parseMethodDescriptor yX0_leastRunUp.desc).map (fun d => d.parameters.length) = some 3 := by decide +kernel
theorem ml_RX11_276 : MLp RX11 276 yX0_leastRunUp cX0_leastRunUp 7 (some .int) 3 := ⟨(inT_4 184 rfl rfl), in_yX0_leastRunUp, co_yX0_leastRunUp, pm_yX0_leastRunUp⟩
theorem mv_yX0_leastRunUp : MVp yX0_leastRunUp := ⟨(inT_4 185 rfl rfl), (inT_4 186 rfl rfl)⟩
theorem in_yX0_leastSand : Cond.initialized yX0_leastSand.cls ∈ UU := (inT_1 10 rfl rfl)
theorem co_yX0_leastSand : Cond.code yX0_leastSand cX0_leastSand 8 (some .int) ∈ UU := (inT_4 196 rfl rfl)
theorem pm_yX0_leastSand : yX0_leastSand.cls ≠ "java/lang/invoke/MethodHandle" ∧ yX0_leastSand.cls ≠ "java/lang/invoke/VarHandle" ∧ (parseMethodDescriptor yX0_leastSand.desc).map (fun d => d.parameters.length) = some 4 := by decide +kernel
theorem ml_RX11_280 : MLp RX11 280 yX0_leastSand cX0_leastSand 8 (some .int) 4 := ⟨(inT_4 193 rfl rfl), in_yX0_leastSand, co_yX0_leastSand, pm_yX0_leastSand⟩
theorem mv_yX0_leastSand : MVp yX0_leastSand := ⟨(inT_4 194 rfl rfl), (inT_4 195 rfl rfl)⟩
theorem in_yX0_helpfulWagons : Cond.initialized yX0_helpfulWagons.cls ∈ UU := (inT_1 10 rfl rfl)
theorem co_yX0_helpfulWagons : Cond.code yX0_helpfulWagons cX0_helpfulWagons 9 (some .int) ∈ UU := (inT_4 204 rfl rfl)
theorem pm_yX0_helpfulWagons : yX0_helpfulWagons.cls ≠ "java/lang/invoke/MethodHandle" ∧ yX0_helpfulWagons.cls ≠ "java/lang/invoke/VarHandle" ∧ (parseMethodDescriptor yX0_helpfulWagons.desc).map (fun d => d.parameters.length) = some 5 := by decide +kernel
theorem ml_RX11_283 : MLp RX11 283 yX0_helpfulWagons cX0_helpfulWagons 9 (some .int) 5 := ⟨(inT_4 201 rfl rfl), in_yX0_helpfulWagons, co_yX0_helpfulWagons, pm_yX0_helpfulWagons⟩
theorem mv_yX0_helpfulWagons : MVp yX0_helpfulWagons := ⟨(inT_4 202 rfl rfl), (inT_4 203 rfl rfl)⟩
theorem in_yX5_haltsBy : Cond.initialized yX5_haltsBy.cls ∈ UU := (inT_1 11 rfl rfl)
theorem co_yX5_haltsBy : Cond.code yX5_haltsBy cX5_haltsBy 7 (some .int) ∈ UU := (inT_4 224 rfl rfl)
theorem pm_yX5_haltsBy : yX5_haltsBy.cls ≠ "java/lang/invoke/MethodHandle" ∧ yX5_haltsBy.cls ≠ "java/lang/invoke/VarHandle" ∧ (parseMethodDescriptor yX5_haltsBy.desc).map (fun d => d.parameters.length) = some 2 := by decide +kernel
theorem ml_RX11_287 : MLp RX11 287 yX5_haltsBy cX5_haltsBy 7 (some .int) 2 := ⟨(inT_4 221 rfl rfl), in_yX5_haltsBy, co_yX5_haltsBy, pm_yX5_haltsBy⟩
theorem mv_yX5_haltsBy : MVp yX5_haltsBy := ⟨(inT_4 222 rfl rfl), (inT_4 223 rfl rfl)⟩
theorem in_yX5_findPlaces : Cond.initialized yX5_findPlaces.cls ∈ UU := (inT_1 11 rfl rfl)
theorem co_yX5_findPlaces : Cond.code yX5_findPlaces cX5_findPlaces 3 (some .int) ∈ UU := (inT_5 5 rfl rfl)
theorem pm_yX5_findPlaces : yX5_findPlaces.cls ≠ "java/lang/invoke/MethodHandle" ∧ yX5_findPlaces.cls ≠ "java/lang/invoke/VarHandle" ∧ (parseMethodDescriptor yX5_findPlaces.desc).map (fun d => d.parameters.length) = some 1 := by decide +kernel
theorem ml_RX11_290 : MLp RX11 290 yX5_findPlaces cX5_findPlaces 3 (some .int) 1 := ⟨(inT_5 2 rfl rfl), in_yX5_findPlaces, co_yX5_findPlaces, pm_yX5_findPlaces⟩
theorem mv_yX5_findPlaces : MVp yX5_findPlaces := ⟨(inT_5 3 rfl rfl), (inT_5 4 rfl rfl)⟩
theorem ml_RX11_299 : MLp RX11 299 yX0_wagonsAtPlatform cX0_wagonsAtPlatform 5 (some .int) 2 := ⟨(inT_5 56 rfl rfl), in_yX0_wagonsAtPlatform, co_yX0_wagonsAtPlatform, pm_yX0_wagonsAtPlatform⟩
theorem in_yX11_isCooksWay : Cond.initialized yX11_isCooksWay.cls ∈ UU := (inT_1 1 rfl rfl)
theorem co_yX11_isCooksWay : Cond.code yX11_isCooksWay cX11_isCooksWay 4 (some .boolean) ∈ UU := (inT_5 72 rfl rfl)
theorem pm_yX11_isCooksWay : yX11_isCooksWay.cls ≠ "java/lang/invoke/MethodHandle" ∧ yX11_isCooksWay.cls ≠ "java/lang/invoke/VarHandle" ∧ (parseMethodDescriptor yX11_isCooksWay.desc).map (fun d => d.parameters.length) = some 3 := by decide +kernel
theorem ml_RX11_303 : MLp RX11 303 yX11_isCooksWay cX11_isCooksWay 4 (some .boolean) 3 := ⟨(inT_5 69 rfl rfl), in_yX11_isCooksWay, co_yX11_isCooksWay, pm_yX11_isCooksWay⟩
theorem mv_yX11_isCooksWay : MVp yX11_isCooksWay := ⟨(inT_5 71 rfl rfl), (inP_2 14 rfl rfl rfl)⟩
theorem in_yX11_cooksMinutes : Cond.initialized yX11_cooksMinutes.cls ∈ UU := (inT_1 1 rfl rfl)
theorem co_yX11_cooksMinutes : Cond.code yX11_cooksMinutes cX11_cooksMinutes 4 (some .int) ∈ UU := (inT_5 80 rfl rfl)
theorem pm_yX11_cooksMinutes : yX11_cooksMinutes.cls ≠ "java/lang/invoke/MethodHandle" ∧ yX11_cooksMinutes.cls ≠ "java/lang/invoke/VarHandle" ∧ (parseMethodDescriptor yX11_cooksMinutes.desc).map (fun d => d.parameters.length) = some 3 := by decide +kernel
theorem ml_RX11_307 : MLp RX11 307 yX11_cooksMinutes cX11_cooksMinutes 4 (some .int) 3 := ⟨(inT_5 77 rfl rfl), in_yX11_cooksMinutes, co_yX11_cooksMinutes, pm_yX11_cooksMinutes⟩
theorem mv_yX11_cooksMinutes : MVp yX11_cooksMinutes := ⟨(inT_5 79 rfl rfl), (inP_2 15 rfl rfl rfl)⟩
theorem in_yX0_hasWagon : Cond.initialized yX0_hasWagon.cls ∈ UU := (inT_1 10 rfl rfl)
theorem co_yX0_hasWagon : Cond.code yX0_hasWagon cX0_hasWagon 4 (some .boolean) ∈ UU := (inT_5 76 rfl rfl)
theorem pm_yX0_hasWagon : yX0_hasWagon.cls ≠ "java/lang/invoke/MethodHandle" ∧ yX0_hasWagon.cls ≠ "java/lang/invoke/VarHandle" ∧ (parseMethodDescriptor yX0_hasWagon.desc).map (fun d => d.parameters.length) = some 3 := by decide +kernel
theorem ml_RX11_311 : MLp RX11 311 yX0_hasWagon cX0_hasWagon 4 (some .boolean) 3 := ⟨(inT_5 73 rfl rfl), in_yX0_hasWagon, co_yX0_hasWagon, pm_yX0_hasWagon⟩
theorem mv_yX0_hasWagon : MVp yX0_hasWagon := ⟨(inT_5 74 rfl rfl), (inT_5 75 rfl rfl)⟩
theorem in_yX0_minutes : Cond.initialized yX0_minutes.cls ∈ UU := (inT_1 10 rfl rfl)
theorem co_yX0_minutes : Cond.code yX0_minutes cX0_minutes 6 (some .int) ∈ UU := (inT_5 84 rfl rfl)
theorem pm_yX0_minutes : yX0_minutes.cls ≠ "java/lang/invoke/MethodHandle" ∧ yX0_minutes.cls ≠ "java/lang/invoke/VarHandle" ∧ (parseMethodDescriptor yX0_minutes.desc).map (fun d => d.parameters.length) = some 4 := by decide +kernel
theorem ml_RX11_315 : MLp RX11 315 yX0_minutes cX0_minutes 6 (some .int) 4 := ⟨(inT_5 81 rfl rfl), in_yX0_minutes, co_yX0_minutes, pm_yX0_minutes⟩
theorem mv_yX0_minutes : MVp yX0_minutes := ⟨(inT_5 82 rfl rfl), (inT_5 83 rfl rfl)⟩
theorem in_yX0_roomNeeded : Cond.initialized yX0_roomNeeded.cls ∈ UU := (inT_1 10 rfl rfl)
theorem co_yX0_roomNeeded : Cond.code yX0_roomNeeded cX0_roomNeeded 3 (some .int) ∈ UU := (inT_5 113 rfl rfl)
theorem pm_yX0_roomNeeded : yX0_roomNeeded.cls ≠ "java/lang/invoke/MethodHandle" ∧ yX0_roomNeeded.cls ≠ "java/lang/invoke/VarHandle" ∧ (parseMethodDescriptor yX0_roomNeeded.desc).map (fun d => d.parameters.length) = some 2 := by decide +kernel
theorem ml_RX11_318 : MLp RX11 318 yX0_roomNeeded cX0_roomNeeded 3 (some .int) 2 := ⟨(inT_5 110 rfl rfl), in_yX0_roomNeeded, co_yX0_roomNeeded, pm_yX0_roomNeeded⟩
theorem mv_yX0_roomNeeded : MVp yX0_roomNeeded := ⟨(inT_5 111 rfl rfl), (inT_5 112 rfl rfl)⟩
theorem in_yX0_loadAll : Cond.initialized yX0_loadAll.cls ∈ UU := (inT_1 10 rfl rfl)
theorem co_yX0_loadAll : Cond.code yX0_loadAll cX0_loadAll 8 (some .int) ∈ UU := (inT_5 121 rfl rfl)
theorem pm_yX0_loadAll : yX0_loadAll.cls ≠ "java/lang/invoke/MethodHandle" ∧ yX0_loadAll.cls ≠ "java/lang/invoke/VarHandle" ∧ (parseMethodDescriptor yX0_loadAll.desc).map (fun d => d.parameters.length) = some 3 := by decide +kernel
theorem ml_RX11_321 : MLp RX11 321 yX0_loadAll cX0_loadAll 8 (some .int) 3 := ⟨(inT_5 118 rfl rfl), in_yX0_loadAll, co_yX0_loadAll, pm_yX0_loadAll⟩
theorem mv_yX0_loadAll : MVp yX0_loadAll := ⟨(inT_5 119 rfl rfl), (inT_5 120 rfl rfl)⟩
theorem ml_RX11_334 : MLp RX11 334 yX3_longOf cX3_longOf 2 (some .int) 1 := ⟨(inT_5 150 rfl rfl), in_yX3_longOf, co_yX3_longOf, pm_yX3_longOf⟩
theorem in_yX6_read : Cond.initialized yX6_read.cls ∈ UU := (inT_1 6 rfl rfl)
theorem co_yX6_read : Cond.code yX6_read cX6_read 5 (some .int) ∈ UU := (inT_5 158 rfl rfl)
theorem pm_yX6_read : yX6_read.cls ≠ "java/lang/invoke/MethodHandle" ∧ yX6_read.cls ≠ "java/lang/invoke/VarHandle" ∧ (parseMethodDescriptor yX6_read.desc).map (fun d => d.parameters.length) = some 3 := by decide +kernel
theorem ml_RX11_337 : MLp RX11 337 yX6_read cX6_read 5 (some .int) 3 := ⟨(inT_5 155 rfl rfl), in_yX6_read, co_yX6_read, pm_yX6_read⟩
theorem mv_yX6_read : MVp yX6_read := ⟨(inT_5 156 rfl rfl), (inT_5 157 rfl rfl)⟩
theorem in_yX2_run : Cond.initialized yX2_run.cls ∈ UU := (inT_1 12 rfl rfl)
theorem co_yX2_run : Cond.code yX2_run cX2_run 6 (some .int) ∈ UU := (inT_5 179 rfl rfl)
theorem pm_yX2_run : yX2_run.cls ≠ "java/lang/invoke/MethodHandle" ∧ yX2_run.cls ≠ "java/lang/invoke/VarHandle" ∧ (parseMethodDescriptor yX2_run.desc).map (fun d => d.parameters.length) = some 3 := by decide +kernel
theorem ml_RX11_340 : MLp RX11 340 yX2_run cX2_run 6 (some .int) 3 := ⟨(inT_5 176 rfl rfl), in_yX2_run, co_yX2_run, pm_yX2_run⟩
theorem mv_yX2_run : MVp yX2_run := ⟨(inT_5 177 rfl rfl), (inT_5 178 rfl rfl)⟩
theorem in_yX10_copyFrom : Cond.initialized yX10_copyFrom.cls ∈ UU := (inT_1 7 rfl rfl)
theorem co_yX10_copyFrom : Cond.code yX10_copyFrom cX10_copyFrom 2 none ∈ UU := (inT_5 211 rfl rfl)
theorem pm_yX10_copyFrom : yX10_copyFrom.cls ≠ "java/lang/invoke/MethodHandle" ∧ yX10_copyFrom.cls ≠ "java/lang/invoke/VarHandle" ∧ (parseMethodDescriptor yX10_copyFrom.desc).map (fun d => d.parameters.length) = some 1 := by decide +kernel
theorem ml_RX11_344 : MLp RX11 344 yX10_copyFrom cX10_copyFrom 2 none 1 := ⟨(inT_5 208 rfl rfl), in_yX10_copyFrom, co_yX10_copyFrom, pm_yX10_copyFrom⟩
theorem mv_yX10_copyFrom : MVp yX10_copyFrom := ⟨(inT_5 209 rfl rfl), (inT_5 210 rfl rfl)⟩
theorem in_yX5_betHead : Cond.initialized yX5_betHead.cls ∈ UU := (inT_1 11 rfl rfl)
theorem co_yX5_betHead : Cond.code yX5_betHead cX5_betHead 6 (some .int) ∈ UU := (inT_5 229 rfl rfl)
theorem pm_yX5_betHead : yX5_betHead.cls ≠ "java/lang/invoke/MethodHandle" ∧ yX5_betHead.cls ≠ "java/lang/invoke/VarHandle" ∧ (parseMethodDescriptor yX5_betHead.desc).map (fun d => d.parameters.length) = some 2 := by decide +kernel
theorem ml_RX11_355 : MLp RX11 355 yX5_betHead cX5_betHead 6 (some .int) 2 := ⟨(inT_5 226 rfl rfl), in_yX5_betHead, co_yX5_betHead, pm_yX5_betHead⟩
theorem mv_yX5_betHead : MVp yX5_betHead := ⟨(inT_5 227 rfl rfl), (inT_5 228 rfl rfl)⟩
theorem in_yX5_betsPartedBy : Cond.initialized yX5_betsPartedBy.cls ∈ UU := (inT_1 11 rfl rfl)
theorem co_yX5_betsPartedBy : Cond.code yX5_betsPartedBy cX5_betsPartedBy 7 (some .int) ∈ UU := (inT_6 7 rfl rfl)
theorem pm_yX5_betsPartedBy : yX5_betsPartedBy.cls ≠ "java/lang/invoke/MethodHandle" ∧ yX5_betsPartedBy.cls ≠ "java/lang/invoke/VarHandle" ∧ (parseMethodDescriptor yX5_betsPartedBy.desc).map (fun d => d.parameters.length) = some 4 := by decide +kernel
theorem ml_RX11_358 : MLp RX11 358 yX5_betsPartedBy cX5_betsPartedBy 7 (some .int) 4 := ⟨(inT_6 4 rfl rfl), in_yX5_betsPartedBy, co_yX5_betsPartedBy, pm_yX5_betsPartedBy⟩
theorem mv_yX5_betsPartedBy : MVp yX5_betsPartedBy := ⟨(inT_6 5 rfl rfl), (inT_6 6 rfl rfl)⟩
theorem in_yX9_copyFrom : Cond.initialized yX9_copyFrom.cls ∈ UU := (inT_1 4 rfl rfl)
theorem co_yX9_copyFrom : Cond.code yX9_copyFrom cX9_copyFrom 2 none ∈ UU := (inT_6 24 rfl rfl)
theorem pm_yX9_copyFrom : yX9_copyFrom.cls ≠ "java/lang/invoke/MethodHandle" ∧ yX9_copyFrom.cls ≠ "java/lang/invoke/VarHandle" ∧ (parseMethodDescriptor yX9_copyFrom.desc).map (fun d => d.parameters.length) = some 1 := by decide +kernel
theorem ml_RX11_361 : MLp RX11 361 yX9_copyFrom cX9_copyFrom 2 none 1 := ⟨(inT_6 21 rfl rfl), in_yX9_copyFrom, co_yX9_copyFrom, pm_yX9_copyFrom⟩
theorem mv_yX9_copyFrom : MVp yX9_copyFrom := ⟨(inT_6 22 rfl rfl), (inT_6 23 rfl rfl)⟩
theorem in_yX11_putNumber : Cond.initialized yX11_putNumber.cls ∈ UU := (inT_1 1 rfl rfl)
theorem co_yX11_putNumber : Cond.code yX11_putNumber cX11_putNumber 3 none ∈ UU := (inT_3 62 rfl rfl)
theorem pm_yX11_putNumber : yX11_putNumber.cls ≠ "java/lang/invoke/MethodHandle" ∧ yX11_putNumber.cls ≠ "java/lang/invoke/VarHandle" ∧ (parseMethodDescriptor yX11_putNumber.desc).map (fun d => d.parameters.length) = some 1 := by decide +kernel
theorem ml_RX11_84 : MLp RX11 84 yX11_putNumber cX11_putNumber 3 none 1 := ⟨(inT_3 59 rfl rfl), in_yX11_putNumber, co_yX11_putNumber, pm_yX11_putNumber⟩
theorem mv_yX11_putNumber : MVp yX11_putNumber := ⟨(inT_3 61 rfl rfl), (inP_1 0 rfl rfl rfl)⟩
theorem in_yX11_takeTape : Cond.initialized yX11_takeTape.cls ∈ UU := (inT_1 1 rfl rfl)
theorem co_yX11_takeTape : Cond.code yX11_takeTape cX11_takeTape 2 (some .int) ∈ UU := (inT_3 74 rfl rfl)
theorem pm_yX11_takeTape : yX11_takeTape.cls ≠ "java/lang/invoke/MethodHandle" ∧ yX11_takeTape.cls ≠ "java/lang/invoke/VarHandle" ∧ (parseMethodDescriptor yX11_takeTape.desc).map (fun d => d.parameters.length) = some 0 := by decide +kernel
theorem ml_RX11_88 : MLp RX11 88 yX11_takeTape cX11_takeTape 2 (some .int) 0 := ⟨(inT_3 71 rfl rfl), in_yX11_takeTape, co_yX11_takeTape, pm_yX11_takeTape⟩
theorem mv_yX11_takeTape : MVp yX11_takeTape := ⟨(inT_3 73 rfl rfl), (inP_1 1 rfl rfl rfl)⟩
theorem in_yX4_read : Cond.initialized yX4_read.cls ∈ UU := (inT_1 2 rfl rfl)
theorem co_yX4_read : Cond.code yX4_read cX4_read 5 (some .int) ∈ UU := (inT_3 78 rfl rfl)
theorem pm_yX4_read : yX4_read.cls ≠ "java/lang/invoke/MethodHandle" ∧ yX4_read.cls ≠ "java/lang/invoke/VarHandle" ∧ (parseMethodDescriptor yX4_read.desc).map (fun d => d.parameters.length) = some 3 := by decide +kernel
theorem ml_RX11_92 : MLp RX11 92 yX4_read cX4_read 5 (some .int) 3 := ⟨(inT_3 75 rfl rfl), in_yX4_read, co_yX4_read, pm_yX4_read⟩
theorem mv_yX4_read : MVp yX4_read := ⟨(inT_3 76 rfl rfl), (inT_3 77 rfl rfl)⟩
theorem in_yX12_four : Cond.initialized yX12_four.cls ∈ UU := (inT_1 13 rfl rfl)
theorem co_yX12_four : Cond.code yX12_four cX12_four 3 none ∈ UU := (inT_6 199 rfl rfl)
theorem pm_yX12_four : yX12_four.cls ≠ "java/lang/invoke/MethodHandle" ∧ yX12_four.cls ≠ "java/lang/invoke/VarHandle" ∧ (parseMethodDescriptor yX12_four.desc).map (fun d => d.parameters.length) = some 1 := by decide +kernel
theorem ml_RX12_10 : MLp RX12 10 yX12_four cX12_four 3 none 1 := ⟨(inT_6 195 rfl rfl), in_yX12_four, co_yX12_four, pm_yX12_four⟩
theorem mv_yX12_four : MVp yX12_four := ⟨(inT_6 197 rfl rfl), (inP_4 0 rfl rfl rfl)⟩
theorem in_yX12_plainLine : Cond.initialized yX12_plainLine.cls ∈ UU := (inT_1 13 rfl rfl)
theorem co_yX12_plainLine : Cond.code yX12_plainLine cX12_plainLine 2 none ∈ UU := (inT_6 228 rfl rfl)
theorem pm_yX12_plainLine : yX12_plainLine.cls ≠ "java/lang/invoke/MethodHandle" ∧ yX12_plainLine.cls ≠ "java/lang/invoke/VarHandle" ∧ (parseMethodDescriptor yX12_plainLine.desc).map (fun d => d.parameters.length) = some 0 := by decide +kernel
theorem ml_RX12_137 : MLp RX12 137 yX12_plainLine cX12_plainLine 2 none 0 := ⟨(inT_6 225 rfl rfl), in_yX12_plainLine, co_yX12_plainLine, pm_yX12_plainLine⟩
theorem mv_yX12_plainLine : MVp yX12_plainLine := ⟨(inT_6 227 rfl rfl), (inP_4 1 rfl rfl rfl)⟩
theorem in_yX12_peek : Cond.initialized yX12_peek.cls ∈ UU := (inT_1 13 rfl rfl)
theorem co_yX12_peek : Cond.code yX12_peek cX12_peek 1 (some .int) ∈ UU := (inT_7 153 rfl rfl)
theorem pm_yX12_peek : yX12_peek.cls ≠ "java/lang/invoke/MethodHandle" ∧ yX12_peek.cls ≠ "java/lang/invoke/VarHandle" ∧ (parseMethodDescriptor yX12_peek.desc).map (fun d => d.parameters.length) = some 0 := by decide +kernel
theorem ml_RX12_140 : MLp RX12 140 yX12_peek cX12_peek 1 (some .int) 0 := ⟨(inT_7 150 rfl rfl), in_yX12_peek, co_yX12_peek, pm_yX12_peek⟩
theorem mv_yX12_peek : MVp yX12_peek := ⟨(inT_7 152 rfl rfl), (inP_4 4 rfl rfl rfl)⟩
theorem in_yX12_isSign : Cond.initialized yX12_isSign.cls ∈ UU := (inT_1 13 rfl rfl)
theorem co_yX12_isSign : Cond.code yX12_isSign cX12_isSign 2 (some .boolean) ∈ UU := (inT_7 179 rfl rfl)
theorem pm_yX12_isSign : yX12_isSign.cls ≠ "java/lang/invoke/MethodHandle" ∧ yX12_isSign.cls ≠ "java/lang/invoke/VarHandle" ∧ (parseMethodDescriptor yX12_isSign.desc).map (fun d => d.parameters.length) = some 1 := by decide +kernel
theorem ml_RX12_173 : MLp RX12 173 yX12_isSign cX12_isSign 2 (some .boolean) 1 := ⟨(inT_7 176 rfl rfl), in_yX12_isSign, co_yX12_isSign, pm_yX12_isSign⟩
theorem mv_yX12_isSign : MVp yX12_isSign := ⟨(inT_7 178 rfl rfl), (inP_4 9 rfl rfl rfl)⟩
theorem in_yX12_bad : Cond.initialized yX12_bad.cls ∈ UU := (inT_1 13 rfl rfl)
theorem co_yX12_bad : Cond.code yX12_bad cX12_bad 2 (some .boolean) ∈ UU := (inT_7 175 rfl rfl)
theorem pm_yX12_bad : yX12_bad.cls ≠ "java/lang/invoke/MethodHandle" ∧ yX12_bad.cls ≠ "java/lang/invoke/VarHandle" ∧ (parseMethodDescriptor yX12_bad.desc).map (fun d => d.parameters.length) = some 1 := by decide +kernel
theorem ml_RX12_176 : MLp RX12 176 yX12_bad cX12_bad 2 (some .boolean) 1 := ⟨(inT_7 172 rfl rfl), in_yX12_bad, co_yX12_bad, pm_yX12_bad⟩
theorem mv_yX12_bad : MVp yX12_bad := ⟨(inT_7 174 rfl rfl), (inP_4 8 rfl rfl rfl)⟩
theorem in_yX12_next : Cond.initialized yX12_next.cls ∈ UU := (inT_1 13 rfl rfl)
theorem co_yX12_next : Cond.code yX12_next cX12_next 4 none ∈ UU := (inT_7 149 rfl rfl)
theorem pm_yX12_next : yX12_next.cls ≠ "java/lang/invoke/MethodHandle" ∧ yX12_next.cls ≠ "java/lang/invoke/VarHandle" ∧ (parseMethodDescriptor yX12_next.desc).map (fun d => d.parameters.length) = some 0 := by decide +kernel
theorem ml_RX12_179 : MLp RX12 179 yX12_next cX12_next 4 none 0 := ⟨(inT_7 146 rfl rfl), in_yX12_next, co_yX12_next, pm_yX12_next⟩
theorem mv_yX12_next : MVp yX12_next := ⟨(inT_7 148 rfl rfl), (inP_4 3 rfl rfl rfl)⟩
theorem in_yX12_isName : Cond.initialized yX12_isName.cls ∈ UU := (inT_1 13 rfl rfl)
theorem co_yX12_isName : Cond.code yX12_isName cX12_isName 3 (some .boolean) ∈ UU := (inT_7 198 rfl rfl)
theorem pm_yX12_isName : yX12_isName.cls ≠ "java/lang/invoke/MethodHandle" ∧ yX12_isName.cls ≠ "java/lang/invoke/VarHandle" ∧ (parseMethodDescriptor yX12_isName.desc).map (fun d => d.parameters.length) = some 0 := by decide +kernel
theorem ml_RX12_189 : MLp RX12 189 yX12_isName cX12_isName 3 (some .boolean) 0 := ⟨(inT_7 195 rfl rfl), in_yX12_isName, co_yX12_isName, pm_yX12_isName⟩
theorem mv_yX12_isName : MVp yX12_isName := ⟨(inT_7 197 rfl rfl), (inP_4 13 rfl rfl rfl)⟩
theorem in_yX12_find : Cond.initialized yX12_find.cls ∈ UU := (inT_1 13 rfl rfl)
theorem co_yX12_find : Cond.code yX12_find cX12_find 4 (some .int) ∈ UU := (inT_7 202 rfl rfl)
theorem pm_yX12_find : yX12_find.cls ≠ "java/lang/invoke/MethodHandle" ∧ yX12_find.cls ≠ "java/lang/invoke/VarHandle" ∧ (parseMethodDescriptor yX12_find.desc).map (fun d => d.parameters.length) = some 2 := by decide +kernel
theorem ml_RX12_193 : MLp RX12 193 yX12_find cX12_find 4 (some .int) 2 := ⟨(inT_7 199 rfl rfl), in_yX12_find, co_yX12_find, pm_yX12_find⟩
theorem mv_yX12_find : MVp yX12_find := ⟨(inT_7 201 rfl rfl), (inP_4 14 rfl rfl rfl)⟩
theorem in_yX12_isWord : Cond.initialized yX12_isWord.cls ∈ UU := (inT_1 13 rfl rfl)
theorem co_yX12_isWord : Cond.code yX12_isWord cX12_isWord 3 (some .boolean) ∈ UU := (inT_7 167 rfl rfl)
theorem pm_yX12_isWord : yX12_isWord.cls ≠ "java/lang/invoke/MethodHandle" ∧ yX12_isWord.cls ≠ "java/lang/invoke/VarHandle" ∧ (parseMethodDescriptor yX12_isWord.desc).map (fun d => d.parameters.length) = some 1 := by decide +kernel
theorem ml_RX12_197 : MLp RX12 197 yX12_isWord cX12_isWord 3 (some .boolean) 1 := ⟨(inT_7 164 rfl rfl), in_yX12_isWord, co_yX12_isWord, pm_yX12_isWord⟩
theorem mv_yX12_isWord : MVp yX12_isWord := ⟨(inT_7 166 rfl rfl), (inP_4 6 rfl rfl rfl)⟩
theorem in_yX12_readSlope : Cond.initialized yX12_readSlope.cls ∈ UU := (inT_1 13 rfl rfl)
theorem co_yX12_readSlope : Cond.code yX12_readSlope cX12_readSlope 4 (some .boolean) ∈ UU := (inT_7 171 rfl rfl)
theorem pm_yX12_readSlope : yX12_readSlope.cls ≠ "java/lang/invoke/MethodHandle" ∧ yX12_readSlope.cls ≠ "java/lang/invoke/VarHandle" ∧ (parseMethodDescriptor yX12_readSlope.desc).map (fun d => d.parameters.length) = some 0 := by decide +kernel
theorem ml_RX12_201 : MLp RX12 201 yX12_readSlope cX12_readSlope 4 (some .boolean) 0 := ⟨(inT_7 168 rfl rfl), in_yX12_readSlope, co_yX12_readSlope, pm_yX12_readSlope⟩
theorem mv_yX12_readSlope : MVp yX12_readSlope := ⟨(inT_7 170 rfl rfl), (inP_4 7 rfl rfl rfl)⟩
theorem in_yX12_readHalt : Cond.initialized yX12_readHalt.cls ∈ UU := (inT_1 13 rfl rfl)
theorem co_yX12_readHalt : Cond.code yX12_readHalt cX12_readHalt 2 (some .boolean) ∈ UU := (inT_7 190 rfl rfl)
theorem pm_yX12_readHalt : yX12_readHalt.cls ≠ "java/lang/invoke/MethodHandle" ∧ yX12_readHalt.cls ≠ "java/lang/invoke/VarHandle" ∧ (parseMethodDescriptor yX12_readHalt.desc).map (fun d => d.parameters.length) = some 0 := by decide +kernel
theorem ml_RX12_204 : MLp RX12 204 yX12_readHalt cX12_readHalt 2 (some .boolean) 0 := ⟨(inT_7 187 rfl rfl), in_yX12_readHalt, co_yX12_readHalt, pm_yX12_readHalt⟩
theorem mv_yX12_readHalt : MVp yX12_readHalt := ⟨(inT_7 189 rfl rfl), (inP_4 11 rfl rfl rfl)⟩
theorem in_yX12_readLoop : Cond.initialized yX12_readLoop.cls ∈ UU := (inT_1 13 rfl rfl)
theorem co_yX12_readLoop : Cond.code yX12_readLoop cX12_readLoop 3 (some .boolean) ∈ UU := (inT_7 206 rfl rfl)
theorem pm_yX12_readLoop : yX12_readLoop.cls ≠ "java/lang/invoke/MethodHandle" ∧ yX12_readLoop.cls ≠ "java/lang/invoke/VarHandle" ∧ (parseMethodDescriptor yX12_readLoop.desc).map (fun d => d.parameters.length) = some 0 := by decide +kernel
theorem ml_RX12_207 : MLp RX12 207 yX12_readLoop cX12_readLoop 3 (some .boolean) 0 := ⟨(inT_7 203 rfl rfl), in_yX12_readLoop, co_yX12_readLoop, pm_yX12_readLoop⟩
theorem mv_yX12_readLoop : MVp yX12_readLoop := ⟨(inT_7 205 rfl rfl), (inP_4 15 rfl rfl rfl)⟩
theorem in_yX12_readKind : Cond.initialized yX12_readKind.cls ∈ UU := (inT_1 13 rfl rfl)
theorem co_yX12_readKind : Cond.code yX12_readKind cX12_readKind 2 (some .boolean) ∈ UU := (inT_7 210 rfl rfl)
theorem pm_yX12_readKind : yX12_readKind.cls ≠ "java/lang/invoke/MethodHandle" ∧ yX12_readKind.cls ≠ "java/lang/invoke/VarHandle" ∧ (parseMethodDescriptor yX12_readKind.desc).map (fun d => d.parameters.length) = some 0 := by decide +kernel
theorem ml_RX12_210 : MLp RX12 210 yX12_readKind cX12_readKind 2 (some .boolean) 0 := ⟨(inT_7 207 rfl rfl), in_yX12_readKind, co_yX12_readKind, pm_yX12_readKind⟩
theorem mv_yX12_readKind : MVp yX12_readKind := ⟨(inT_7 209 rfl rfl), (inP_5 0 rfl rfl rfl)⟩
theorem in_yX12_isOnce : Cond.initialized yX12_isOnce.cls ∈ UU := (inT_1 13 rfl rfl)
theorem co_yX12_isOnce : Cond.code yX12_isOnce cX12_isOnce 2 (some .boolean) ∈ UU := (inT_7 214 rfl rfl)
theorem pm_yX12_isOnce : yX12_isOnce.cls ≠ "java/lang/invoke/MethodHandle" ∧ yX12_isOnce.cls ≠ "java/lang/invoke/VarHandle" ∧ (parseMethodDescriptor yX12_isOnce.desc).map (fun d => d.parameters.length) = some 1 := by decide +kernel
theorem ml_RX12_213 : MLp RX12 213 yX12_isOnce cX12_isOnce 2 (some .boolean) 1 := ⟨(inT_7 211 rfl rfl), in_yX12_isOnce, co_yX12_isOnce, pm_yX12_isOnce⟩
theorem mv_yX12_isOnce : MVp yX12_isOnce := ⟨(inT_7 213 rfl rfl), (inP_5 1 rfl rfl rfl)⟩
theorem in_yX12_takes : Cond.initialized yX12_takes.cls ∈ UU := (inT_1 13 rfl rfl)
theorem co_yX12_takes : Cond.code yX12_takes cX12_takes 3 (some .boolean) ∈ UU := (inT_7 183 rfl rfl)
theorem pm_yX12_takes : yX12_takes.cls ≠ "java/lang/invoke/MethodHandle" ∧ yX12_takes.cls ≠ "java/lang/invoke/VarHandle" ∧ (parseMethodDescriptor yX12_takes.desc).map (fun d => d.parameters.length) = some 2 := by decide +kernel
theorem ml_RX12_216 : MLp RX12 216 yX12_takes cX12_takes 3 (some .boolean) 2 := ⟨(inT_7 180 rfl rfl), in_yX12_takes, co_yX12_takes, pm_yX12_takes⟩
theorem mv_yX12_takes : MVp yX12_takes := ⟨(inT_7 182 rfl rfl), (inP_4 10 rfl rfl rfl)⟩
theorem in_yX12_keeps : Cond.initialized yX12_keeps.cls ∈ UU := (inT_1 13 rfl rfl)
theorem co_yX12_keeps : Cond.code yX12_keeps cX12_keeps 4 (some .boolean) ∈ UU := (inT_7 221 rfl rfl)
theorem pm_yX12_keeps : yX12_keeps.cls ≠ "java/lang/invoke/MethodHandle" ∧ yX12_keeps.cls ≠ "java/lang/invoke/VarHandle" ∧ (parseMethodDescriptor yX12_keeps.desc).map (fun d => d.parameters.length) = some 3 := by decide +kernel
theorem ml_RX12_220 : MLp RX12 220 yX12_keeps cX12_keeps 4 (some .boolean) 3 := ⟨(inT_7 218 rfl rfl), in_yX12_keeps, co_yX12_keeps, pm_yX12_keeps⟩
theorem mv_yX12_keeps : MVp yX12_keeps := ⟨(inT_7 220 rfl rfl), (inP_5 2 rfl rfl rfl)⟩
theorem in_yX12_readTrain : Cond.initialized yX12_readTrain.cls ∈ UU := (inT_1 13 rfl rfl)
theorem co_yX12_readTrain : Cond.code yX12_readTrain cX12_readTrain 2 (some .boolean) ∈ UU := (inT_7 225 rfl rfl)
theorem pm_yX12_readTrain : yX12_readTrain.cls ≠ "java/lang/invoke/MethodHandle" ∧ yX12_readTrain.cls ≠ "java/lang/invoke/VarHandle" ∧ (parseMethodDescriptor yX12_readTrain.desc).map (fun d => d.parameters.length) = some 0 := by decide +kernel
theorem ml_RX12_223 : MLp RX12 223 yX12_readTrain cX12_readTrain 2 (some .boolean) 0 := ⟨(inT_7 222 rfl rfl), in_yX12_readTrain, co_yX12_readTrain, pm_yX12_readTrain⟩
theorem mv_yX12_readTrain : MVp yX12_readTrain := ⟨(inT_7 224 rfl rfl), (inP_5 3 rfl rfl rfl)⟩
theorem in_yX12_fresh : Cond.initialized yX12_fresh.cls ∈ UU := (inT_1 13 rfl rfl)
theorem co_yX12_fresh : Cond.code yX12_fresh cX12_fresh 2 (some .boolean) ∈ UU := (inT_7 194 rfl rfl)
theorem pm_yX12_fresh : yX12_fresh.cls ≠ "java/lang/invoke/MethodHandle" ∧ yX12_fresh.cls ≠ "java/lang/invoke/VarHandle" ∧ (parseMethodDescriptor yX12_fresh.desc).map (fun d => d.parameters.length) = some 1 := by decide +kernel
theorem ml_RX12_235 : MLp RX12 235 yX12_fresh cX12_fresh 2 (some .boolean) 1 := ⟨(inT_7 191 rfl rfl), in_yX12_fresh, co_yX12_fresh, pm_yX12_fresh⟩
theorem mv_yX12_fresh : MVp yX12_fresh := ⟨(inT_7 193 rfl rfl), (inP_4 12 rfl rfl rfl)⟩
theorem in_yX12_taken : Cond.initialized yX12_taken.cls ∈ UU := (inT_1 13 rfl rfl)
theorem co_yX12_taken : Cond.code yX12_taken cX12_taken 2 none ∈ UU := (inT_7 145 rfl rfl)
theorem pm_yX12_taken : yX12_taken.cls ≠ "java/lang/invoke/MethodHandle" ∧ yX12_taken.cls ≠ "java/lang/invoke/VarHandle" ∧ (parseMethodDescriptor yX12_taken.desc).map (fun d => d.parameters.length) = some 1 := by decide +kernel
theorem ml_RX12_238 : MLp RX12 238 yX12_taken cX12_taken 2 none 1 := ⟨(inT_7 142 rfl rfl), in_yX12_taken, co_yX12_taken, pm_yX12_taken⟩
theorem mv_yX12_taken : MVp yX12_taken := ⟨(inT_7 144 rfl rfl), (inP_4 2 rfl rfl rfl)⟩
theorem in_yX12_row : Cond.initialized yX12_row.cls ∈ UU := (inT_1 13 rfl rfl)
theorem co_yX12_row : Cond.code yX12_row cX12_row 3 (some .boolean) ∈ UU := (inT_7 163 rfl rfl)
theorem pm_yX12_row : yX12_row.cls ≠ "java/lang/invoke/MethodHandle" ∧ yX12_row.cls ≠ "java/lang/invoke/VarHandle" ∧ (parseMethodDescriptor yX12_row.desc).map (fun d => d.parameters.length) = some 0 := by decide +kernel
theorem ml_RX12_244 : MLp RX12 244 yX12_row cX12_row 3 (some .boolean) 0 := ⟨(inT_7 160 rfl rfl), in_yX12_row, co_yX12_row, pm_yX12_row⟩
theorem mv_yX12_row : MVp yX12_row := ⟨(inT_7 162 rfl rfl), (inP_4 5 rfl rfl rfl)⟩
theorem in_yX12_sign : Cond.initialized yX12_sign.cls ∈ UU := (inT_1 13 rfl rfl)
theorem co_yX12_sign : Cond.code yX12_sign cX12_sign 2 (some .boolean) ∈ UU := (inT_7 229 rfl rfl)
theorem pm_yX12_sign : yX12_sign.cls ≠ "java/lang/invoke/MethodHandle" ∧ yX12_sign.cls ≠ "java/lang/invoke/VarHandle" ∧ (parseMethodDescriptor yX12_sign.desc).map (fun d => d.parameters.length) = some 1 := by decide +kernel
theorem ml_RX12_247 : MLp RX12 247 yX12_sign cX12_sign 2 (some .boolean) 1 := ⟨(inT_7 226 rfl rfl), in_yX12_sign, co_yX12_sign, pm_yX12_sign⟩
theorem mv_yX12_sign : MVp yX12_sign := ⟨(inT_7 228 rfl rfl), (inP_5 4 rfl rfl rfl)⟩
theorem in_yX12_throwsIf : Cond.initialized yX12_throwsIf.cls ∈ UU := (inT_1 13 rfl rfl)
theorem co_yX12_throwsIf : Cond.code yX12_throwsIf cX12_throwsIf 2 (some .boolean) ∈ UU := (inT_8 1 rfl rfl)
theorem pm_yX12_throwsIf : yX12_throwsIf.cls ≠ "java/lang/invoke/MethodHandle" ∧ yX12_throwsIf.cls ≠ "java/lang/invoke/VarHandle" ∧ (parseMethodDescriptor yX12_throwsIf.desc).map (fun d => d.parameters.length) = some 1 := by decide +kernel
theorem ml_RX12_250 : MLp RX12 250 yX12_throwsIf cX12_throwsIf 2 (some .boolean) 1 := ⟨(inT_7 238 rfl rfl), in_yX12_throwsIf, co_yX12_throwsIf, pm_yX12_throwsIf⟩
theorem mv_yX12_throwsIf : MVp yX12_throwsIf := ⟨(inT_8 0 rfl rfl), (inP_5 5 rfl rfl rfl)⟩
theorem in_yX12_gradeOf : Cond.initialized yX12_gradeOf.cls ∈ UU := (inT_1 13 rfl rfl)
theorem co_yX12_gradeOf : Cond.code yX12_gradeOf cX12_gradeOf 2 (some .int) ∈ UU := (inT_8 5 rfl rfl)
theorem pm_yX12_gradeOf : yX12_gradeOf.cls ≠ "java/lang/invoke/MethodHandle" ∧ yX12_gradeOf.cls ≠ "java/lang/invoke/VarHandle" ∧ (parseMethodDescriptor yX12_gradeOf.desc).map (fun d => d.parameters.length) = some 1 := by decide +kernel
theorem ml_RX12_254 : MLp RX12 254 yX12_gradeOf cX12_gradeOf 2 (some .int) 1 := ⟨(inT_8 2 rfl rfl), in_yX12_gradeOf, co_yX12_gradeOf, pm_yX12_gradeOf⟩
theorem mv_yX12_gradeOf : MVp yX12_gradeOf := ⟨(inT_8 4 rfl rfl), (inP_5 6 rfl rfl rfl)⟩
theorem in_yX12_isHalt : Cond.initialized yX12_isHalt.cls ∈ UU := (inT_1 13 rfl rfl)
theorem co_yX12_isHalt : Cond.code yX12_isHalt cX12_isHalt 2 (some .boolean) ∈ UU := (inT_8 13 rfl rfl)
theorem pm_yX12_isHalt : yX12_isHalt.cls ≠ "java/lang/invoke/MethodHandle" ∧ yX12_isHalt.cls ≠ "java/lang/invoke/VarHandle" ∧ (parseMethodDescriptor yX12_isHalt.desc).map (fun d => d.parameters.length) = some 1 := by decide +kernel
theorem ml_RX12_258 : MLp RX12 258 yX12_isHalt cX12_isHalt 2 (some .boolean) 1 := ⟨(inT_8 10 rfl rfl), in_yX12_isHalt, co_yX12_isHalt, pm_yX12_isHalt⟩
theorem mv_yX12_isHalt : MVp yX12_isHalt := ⟨(inT_8 12 rfl rfl), (inP_5 7 rfl rfl rfl)⟩
theorem in_yX12_haltAt : Cond.initialized yX12_haltAt.cls ∈ UU := (inT_1 13 rfl rfl)
theorem co_yX12_haltAt : Cond.code yX12_haltAt cX12_haltAt 2 (some .int) ∈ UU := (inT_8 17 rfl rfl)
theorem pm_yX12_haltAt : yX12_haltAt.cls ≠ "java/lang/invoke/MethodHandle" ∧ yX12_haltAt.cls ≠ "java/lang/invoke/VarHandle" ∧ (parseMethodDescriptor yX12_haltAt.desc).map (fun d => d.parameters.length) = some 1 := by decide +kernel
theorem ml_RX12_261 : MLp RX12 261 yX12_haltAt cX12_haltAt 2 (some .int) 1 := ⟨(inT_8 14 rfl rfl), in_yX12_haltAt, co_yX12_haltAt, pm_yX12_haltAt⟩
theorem mv_yX12_haltAt : MVp yX12_haltAt := ⟨(inT_8 16 rfl rfl), (inP_5 8 rfl rfl rfl)⟩
theorem in_yX12_addsOf : Cond.initialized yX12_addsOf.cls ∈ UU := (inT_1 13 rfl rfl)
theorem co_yX12_addsOf : Cond.code yX12_addsOf cX12_addsOf 2 (some .int) ∈ UU := (inT_8 21 rfl rfl)
theorem pm_yX12_addsOf : yX12_addsOf.cls ≠ "java/lang/invoke/MethodHandle" ∧ yX12_addsOf.cls ≠ "java/lang/invoke/VarHandle" ∧ (parseMethodDescriptor yX12_addsOf.desc).map (fun d => d.parameters.length) = some 1 := by decide +kernel
theorem ml_RX12_264 : MLp RX12 264 yX12_addsOf cX12_addsOf 2 (some .int) 1 := ⟨(inT_8 18 rfl rfl), in_yX12_addsOf, co_yX12_addsOf, pm_yX12_addsOf⟩
theorem mv_yX12_addsOf : MVp yX12_addsOf := ⟨(inT_8 20 rfl rfl), (inP_5 9 rfl rfl rfl)⟩
theorem in_yX12_isKind : Cond.initialized yX12_isKind.cls ∈ UU := (inT_1 13 rfl rfl)
theorem co_yX12_isKind : Cond.code yX12_isKind cX12_isKind 2 (some .boolean) ∈ UU := (inT_8 29 rfl rfl)
theorem pm_yX12_isKind : yX12_isKind.cls ≠ "java/lang/invoke/MethodHandle" ∧ yX12_isKind.cls ≠ "java/lang/invoke/VarHandle" ∧ (parseMethodDescriptor yX12_isKind.desc).map (fun d => d.parameters.length) = some 1 := by decide +kernel
theorem ml_RX12_267 : MLp RX12 267 yX12_isKind cX12_isKind 2 (some .boolean) 1 := ⟨(inT_8 26 rfl rfl), in_yX12_isKind, co_yX12_isKind, pm_yX12_isKind⟩
theorem mv_yX12_isKind : MVp yX12_isKind := ⟨(inT_8 28 rfl rfl), (inP_5 10 rfl rfl rfl)⟩
theorem in_yX12_longOf : Cond.initialized yX12_longOf.cls ∈ UU := (inT_1 13 rfl rfl)
theorem co_yX12_longOf : Cond.code yX12_longOf cX12_longOf 2 (some .int) ∈ UU := (inT_8 61 rfl rfl)
theorem pm_yX12_longOf : yX12_longOf.cls ≠ "java/lang/invoke/MethodHandle" ∧ yX12_longOf.cls ≠ "java/lang/invoke/VarHandle" ∧ (parseMethodDescriptor yX12_longOf.desc).map (fun d => d.parameters.length) = some 1 := by decide +kernel
theorem ml_RX12_273 : MLp RX12 273 yX12_longOf cX12_longOf 2 (some .int) 1 := ⟨(inT_8 58 rfl rfl), in_yX12_longOf, co_yX12_longOf, pm_yX12_longOf⟩
theorem mv_yX12_longOf : MVp yX12_longOf := ⟨(inT_8 60 rfl rfl), (inP_6 0 rfl rfl rfl)⟩
theorem in_yX12_weightOf : Cond.initialized yX12_weightOf.cls ∈ UU := (inT_1 13 rfl rfl)
theorem co_yX12_weightOf : Cond.code yX12_weightOf cX12_weightOf 2 (some .int) ∈ UU := (inT_8 65 rfl rfl)
theorem pm_yX12_weightOf : yX12_weightOf.cls ≠ "java/lang/invoke/MethodHandle" ∧ yX12_weightOf.cls ≠ "java/lang/invoke/VarHandle" ∧ (parseMethodDescriptor yX12_weightOf.desc).map (fun d => d.parameters.length) = some 1 := by decide +kernel
theorem ml_RX12_276 : MLp RX12 276 yX12_weightOf cX12_weightOf 2 (some .int) 1 := ⟨(inT_8 62 rfl rfl), in_yX12_weightOf, co_yX12_weightOf, pm_yX12_weightOf⟩
theorem mv_yX12_weightOf : MVp yX12_weightOf := ⟨(inT_8 64 rfl rfl), (inP_6 1 rfl rfl rfl)⟩
theorem in_yX12_free : Cond.initialized yX12_free.cls ∈ UU := (inT_1 13 rfl rfl)
theorem co_yX12_free : Cond.code yX12_free cX12_free 3 none ∈ UU := (inT_8 53 rfl rfl)
theorem pm_yX12_free : yX12_free.cls ≠ "java/lang/invoke/MethodHandle" ∧ yX12_free.cls ≠ "java/lang/invoke/VarHandle" ∧ (parseMethodDescriptor yX12_free.desc).map (fun d => d.parameters.length) = some 1 := by decide +kernel
theorem ml_RX12_282 : MLp RX12 282 yX12_free cX12_free 3 none 1 := ⟨(inT_8 50 rfl rfl), in_yX12_free, co_yX12_free, pm_yX12_free⟩
theorem mv_yX12_free : MVp yX12_free := ⟨(inT_8 52 rfl rfl), (inP_5 14 rfl rfl rfl)⟩
theorem in_yX12_stands : Cond.initialized yX12_stands.cls ∈ UU := (inT_1 13 rfl rfl)
theorem co_yX12_stands : Cond.code yX12_stands cX12_stands 5 none ∈ UU := (inT_8 57 rfl rfl)
theorem pm_yX12_stands : yX12_stands.cls ≠ "java/lang/invoke/MethodHandle" ∧ yX12_stands.cls ≠ "java/lang/invoke/VarHandle" ∧ (parseMethodDescriptor yX12_stands.desc).map (fun d => d.parameters.length) = some 1 := by decide +kernel
theorem ml_RX12_285 : MLp RX12 285 yX12_stands cX12_stands 5 none 1 := ⟨(inT_8 54 rfl rfl), in_yX12_stands, co_yX12_stands, pm_yX12_stands⟩
theorem mv_yX12_stands : MVp yX12_stands := ⟨(inT_8 56 rfl rfl), (inP_5 15 rfl rfl rfl)⟩
theorem in_yX12_freeAt : Cond.initialized yX12_freeAt.cls ∈ UU := (inT_1 13 rfl rfl)
theorem co_yX12_freeAt : Cond.code yX12_freeAt cX12_freeAt 2 none ∈ UU := (inT_8 49 rfl rfl)
theorem pm_yX12_freeAt : yX12_freeAt.cls ≠ "java/lang/invoke/MethodHandle" ∧ yX12_freeAt.cls ≠ "java/lang/invoke/VarHandle" ∧ (parseMethodDescriptor yX12_freeAt.desc).map (fun d => d.parameters.length) = some 1 := by decide +kernel
theorem ml_RX12_288 : MLp RX12 288 yX12_freeAt cX12_freeAt 2 none 1 := ⟨(inT_8 46 rfl rfl), in_yX12_freeAt, co_yX12_freeAt, pm_yX12_freeAt⟩
theorem mv_yX12_freeAt : MVp yX12_freeAt := ⟨(inT_8 48 rfl rfl), (inP_5 13 rfl rfl rfl)⟩
theorem in_yX12_isUnit : Cond.initialized yX12_isUnit.cls ∈ UU := (inT_1 13 rfl rfl)
theorem co_yX12_isUnit : Cond.code yX12_isUnit cX12_isUnit 2 (some .boolean) ∈ UU := (inT_8 41 rfl rfl)
theorem pm_yX12_isUnit : yX12_isUnit.cls ≠ "java/lang/invoke/MethodHandle" ∧ yX12_isUnit.cls ≠ "java/lang/invoke/VarHandle" ∧ (parseMethodDescriptor yX12_isUnit.desc).map (fun d => d.parameters.length) = some 1 := by decide +kernel
theorem ml_RX12_291 : MLp RX12 291 yX12_isUnit cX12_isUnit 2 (some .boolean) 1 := ⟨(inT_8 38 rfl rfl), in_yX12_isUnit, co_yX12_isUnit, pm_yX12_isUnit⟩
theorem mv_yX12_isUnit : MVp yX12_isUnit := ⟨(inT_8 40 rfl rfl), (inP_5 11 rfl rfl rfl)⟩
theorem in_yX12_strained : Cond.initialized yX12_strained.cls ∈ UU := (inT_1 13 rfl rfl)
theorem co_yX12_strained : Cond.code yX12_strained cX12_strained 7 (some .boolean) ∈ UU := (inT_8 45 rfl rfl)
theorem pm_yX12_strained : yX12_strained.cls ≠ "java/lang/invoke/MethodHandle" ∧ yX12_strained.cls ≠ "java/lang/invoke/VarHandle" ∧ (parseMethodDescriptor yX12_strained.desc).map (fun d => d.parameters.length) = some 3 := by decide +kernel
theorem ml_RX12_294 : MLp RX12 294 yX12_strained cX12_strained 7 (some .boolean) 3 := ⟨(inT_8 42 rfl rfl), in_yX12_strained, co_yX12_strained, pm_yX12_strained⟩
theorem mv_yX12_strained : MVp yX12_strained := ⟨(inT_8 44 rfl rfl), (inP_5 12 rfl rfl rfl)⟩
theorem in_yX12_areUnits : Cond.initialized yX12_areUnits.cls ∈ UU := (inT_1 13 rfl rfl)
theorem co_yX12_areUnits : Cond.code yX12_areUnits cX12_areUnits 3 (some .boolean) ∈ UU := (inT_8 81 rfl rfl)
theorem pm_yX12_areUnits : yX12_areUnits.cls ≠ "java/lang/invoke/MethodHandle" ∧ yX12_areUnits.cls ≠ "java/lang/invoke/VarHandle" ∧ (parseMethodDescriptor yX12_areUnits.desc).map (fun d => d.parameters.length) = some 2 := by decide +kernel
theorem ml_RX12_298 : MLp RX12 298 yX12_areUnits cX12_areUnits 3 (some .boolean) 2 := ⟨(inT_8 78 rfl rfl), in_yX12_areUnits, co_yX12_areUnits, pm_yX12_areUnits⟩
theorem mv_yX12_areUnits : MVp yX12_areUnits := ⟨(inT_8 80 rfl rfl), (inP_6 2 rfl rfl rfl)⟩
theorem in_yX12_comes : Cond.initialized yX12_comes.cls ∈ UU := (inT_1 13 rfl rfl)
theorem co_yX12_comes : Cond.code yX12_comes cX12_comes 7 (some .int) ∈ UU := (inT_8 89 rfl rfl)
theorem pm_yX12_comes : yX12_comes.cls ≠ "java/lang/invoke/MethodHandle" ∧ yX12_comes.cls ≠ "java/lang/invoke/VarHandle" ∧ (parseMethodDescriptor yX12_comes.desc).map (fun d => d.parameters.length) = some 4 := by decide +kernel
theorem ml_RX12_304 : MLp RX12 304 yX12_comes cX12_comes 7 (some .int) 4 := ⟨(inT_8 86 rfl rfl), in_yX12_comes, co_yX12_comes, pm_yX12_comes⟩
theorem mv_yX12_comes : MVp yX12_comes := ⟨(inT_8 88 rfl rfl), (inP_6 3 rfl rfl rfl)⟩
theorem in_yX12_helps : Cond.initialized yX12_helps.cls ∈ UU := (inT_1 13 rfl rfl)
theorem co_yX12_helps : Cond.code yX12_helps cX12_helps 4 none ∈ UU := (inT_8 109 rfl rfl)
theorem pm_yX12_helps : yX12_helps.cls ≠ "java/lang/invoke/MethodHandle" ∧ yX12_helps.cls ≠ "java/lang/invoke/VarHandle" ∧ (parseMethodDescriptor yX12_helps.desc).map (fun d => d.parameters.length) = some 2 := by decide +kernel
theorem ml_RX12_308 : MLp RX12 308 yX12_helps cX12_helps 4 none 2 := ⟨(inT_8 106 rfl rfl), in_yX12_helps, co_yX12_helps, pm_yX12_helps⟩
theorem mv_yX12_helps : MVp yX12_helps := ⟨(inT_8 108 rfl rfl), (inP_6 5 rfl rfl rfl)⟩
theorem in_yX12_strengthOf : Cond.initialized yX12_strengthOf.cls ∈ UU := (inT_1 13 rfl rfl)
theorem co_yX12_strengthOf : Cond.code yX12_strengthOf cX12_strengthOf 2 (some .int) ∈ UU := (inT_8 113 rfl rfl)
theorem pm_yX12_strengthOf : yX12_strengthOf.cls ≠ "java/lang/invoke/MethodHandle" ∧ yX12_strengthOf.cls ≠ "java/lang/invoke/VarHandle" ∧ (parseMethodDescriptor yX12_strengthOf.desc).map (fun d => d.parameters.length) = some 1 := by decide +kernel
theorem ml_RX12_312 : MLp RX12 312 yX12_strengthOf cX12_strengthOf 2 (some .int) 1 := ⟨(inT_8 110 rfl rfl), in_yX12_strengthOf, co_yX12_strengthOf, pm_yX12_strengthOf⟩
theorem mv_yX12_strengthOf : MVp yX12_strengthOf := ⟨(inT_8 112 rfl rfl), (inP_6 6 rfl rfl rfl)⟩
theorem in_yX12_isHelped : Cond.initialized yX12_isHelped.cls ∈ UU := (inT_1 13 rfl rfl)
theorem co_yX12_isHelped : Cond.code yX12_isHelped cX12_isHelped 9 (some .boolean) ∈ UU := (inT_8 105 rfl rfl)
theorem pm_yX12_isHelped : yX12_isHelped.cls ≠ "java/lang/invoke/MethodHandle" ∧ yX12_isHelped.cls ≠ "java/lang/invoke/VarHandle" ∧ (parseMethodDescriptor yX12_isHelped.desc).map (fun d => d.parameters.length) = some 5 := by decide +kernel
theorem ml_RX12_315 : MLp RX12 315 yX12_isHelped cX12_isHelped 9 (some .boolean) 5 := ⟨(inT_8 102 rfl rfl), in_yX12_isHelped, co_yX12_isHelped, pm_yX12_isHelped⟩
theorem mv_yX12_isHelped : MVp yX12_isHelped := ⟨(inT_8 104 rfl rfl), (inP_6 4 rfl rfl rfl)⟩
theorem in_yX12_inserts : Cond.initialized yX12_inserts.cls ∈ UU := (inT_1 13 rfl rfl)
theorem co_yX12_inserts : Cond.code yX12_inserts cX12_inserts 5 none ∈ UU := (inT_8 129 rfl rfl)
theorem pm_yX12_inserts : yX12_inserts.cls ≠ "java/lang/invoke/MethodHandle" ∧ yX12_inserts.cls ≠ "java/lang/invoke/VarHandle" ∧ (parseMethodDescriptor yX12_inserts.desc).map (fun d => d.parameters.length) = some 3 := by decide +kernel
theorem ml_RX12_319 : MLp RX12 319 yX12_inserts cX12_inserts 5 none 3 := ⟨(inT_8 126 rfl rfl), in_yX12_inserts, co_yX12_inserts, pm_yX12_inserts⟩
theorem mv_yX12_inserts : MVp yX12_inserts := ⟨(inT_8 128 rfl rfl), (inP_6 9 rfl rfl rfl)⟩
theorem in_yX12_starts : Cond.initialized yX12_starts.cls ∈ UU := (inT_1 13 rfl rfl)
theorem co_yX12_starts : Cond.code yX12_starts cX12_starts 2 none ∈ UU := (inT_8 125 rfl rfl)
theorem pm_yX12_starts : yX12_starts.cls ≠ "java/lang/invoke/MethodHandle" ∧ yX12_starts.cls ≠ "java/lang/invoke/VarHandle" ∧ (parseMethodDescriptor yX12_starts.desc).map (fun d => d.parameters.length) = some 0 := by decide +kernel
theorem ml_RX12_323 : MLp RX12 323 yX12_starts cX12_starts 2 none 0 := ⟨(inT_8 122 rfl rfl), in_yX12_starts, co_yX12_starts, pm_yX12_starts⟩
theorem mv_yX12_starts : MVp yX12_starts := ⟨(inT_8 124 rfl rfl), (inP_6 8 rfl rfl rfl)⟩
theorem in_yX12_parts : Cond.initialized yX12_parts.cls ∈ UU := (inT_1 13 rfl rfl)
theorem co_yX12_parts : Cond.code yX12_parts cX12_parts 3 (some .boolean) ∈ UU := (inT_8 133 rfl rfl)
theorem pm_yX12_parts : yX12_parts.cls ≠ "java/lang/invoke/MethodHandle" ∧ yX12_parts.cls ≠ "java/lang/invoke/VarHandle" ∧ (parseMethodDescriptor yX12_parts.desc).map (fun d => d.parameters.length) = some 1 := by decide +kernel
theorem ml_RX12_329 : MLp RX12 329 yX12_parts cX12_parts 3 (some .boolean) 1 := ⟨(inT_8 130 rfl rfl), in_yX12_parts, co_yX12_parts, pm_yX12_parts⟩
theorem mv_yX12_parts : MVp yX12_parts := ⟨(inT_8 132 rfl rfl), (inP_6 10 rfl rfl rfl)⟩
theorem in_yX12_haltOf : Cond.initialized yX12_haltOf.cls ∈ UU := (inT_1 13 rfl rfl)
theorem co_yX12_haltOf : Cond.code yX12_haltOf cX12_haltOf 3 (some .int) ∈ UU := (inT_8 137 rfl rfl)
theorem pm_yX12_haltOf : yX12_haltOf.cls ≠ "java/lang/invoke/MethodHandle" ∧ yX12_haltOf.cls ≠ "java/lang/invoke/VarHandle" ∧ (parseMethodDescriptor yX12_haltOf.desc).map (fun d => d.parameters.length) = some 1 := by decide +kernel
theorem ml_RX12_332 : MLp RX12 332 yX12_haltOf cX12_haltOf 3 (some .int) 1 := ⟨(inT_8 134 rfl rfl), in_yX12_haltOf, co_yX12_haltOf, pm_yX12_haltOf⟩
theorem mv_yX12_haltOf : MVp yX12_haltOf := ⟨(inT_8 136 rfl rfl), (inP_6 11 rfl rfl rfl)⟩
theorem in_yX12_placeBy : Cond.initialized yX12_placeBy.cls ∈ UU := (inT_1 13 rfl rfl)
theorem co_yX12_placeBy : Cond.code yX12_placeBy cX12_placeBy 5 (some .int) ∈ UU := (inT_8 141 rfl rfl)
theorem pm_yX12_placeBy : yX12_placeBy.cls ≠ "java/lang/invoke/MethodHandle" ∧ yX12_placeBy.cls ≠ "java/lang/invoke/VarHandle" ∧ (parseMethodDescriptor yX12_placeBy.desc).map (fun d => d.parameters.length) = some 3 := by decide +kernel
theorem ml_RX12_335 : MLp RX12 335 yX12_placeBy cX12_placeBy 5 (some .int) 3 := ⟨(inT_8 138 rfl rfl), in_yX12_placeBy, co_yX12_placeBy, pm_yX12_placeBy⟩
theorem mv_yX12_placeBy : MVp yX12_placeBy := ⟨(inT_8 140 rfl rfl), (inP_6 12 rfl rfl rfl)⟩
theorem in_yX12_livesBy : Cond.initialized yX12_livesBy.cls ∈ UU := (inT_1 13 rfl rfl)
theorem co_yX12_livesBy : Cond.code yX12_livesBy cX12_livesBy 5 (some .int) ∈ UU := (inT_8 121 rfl rfl)
theorem pm_yX12_livesBy : yX12_livesBy.cls ≠ "java/lang/invoke/MethodHandle" ∧ yX12_livesBy.cls ≠ "java/lang/invoke/VarHandle" ∧ (parseMethodDescriptor yX12_livesBy.desc).map (fun d => d.parameters.length) = some 1 := by decide +kernel
theorem ml_RX12_339 : MLp RX12 339 yX12_livesBy cX12_livesBy 5 (some .int) 1 := ⟨(inT_8 118 rfl rfl), in_yX12_livesBy, co_yX12_livesBy, pm_yX12_livesBy⟩
theorem mv_yX12_livesBy : MVp yX12_livesBy := ⟨(inT_8 120 rfl rfl), (inP_6 7 rfl rfl rfl)⟩
theorem in_yX12_platformOf : Cond.initialized yX12_platformOf.cls ∈ UU := (inT_1 13 rfl rfl)
theorem co_yX12_platformOf : Cond.code yX12_platformOf cX12_platformOf 4 (some .int) ∈ UU := (inT_8 157 rfl rfl)
theorem pm_yX12_platformOf : yX12_platformOf.cls ≠ "java/lang/invoke/MethodHandle" ∧ yX12_platformOf.cls ≠ "java/lang/invoke/VarHandle" ∧ (parseMethodDescriptor yX12_platformOf.desc).map (fun d => d.parameters.length) = some 1 := by decide +kernel
theorem ml_RX12_345 : MLp RX12 345 yX12_platformOf cX12_platformOf 4 (some .int) 1 := ⟨(inT_8 154 rfl rfl), in_yX12_platformOf, co_yX12_platformOf, pm_yX12_platformOf⟩
theorem mv_yX12_platformOf : MVp yX12_platformOf := ⟨(inT_8 156 rfl rfl), (inP_6 13 rfl rfl rfl)⟩
theorem in_yX12_isWalk : Cond.initialized yX12_isWalk.cls ∈ UU := (inT_1 13 rfl rfl)
theorem co_yX12_isWalk : Cond.code yX12_isWalk cX12_isWalk 4 (some .boolean) ∈ UU := (inT_8 169 rfl rfl)
theorem pm_yX12_isWalk : yX12_isWalk.cls ≠ "java/lang/invoke/MethodHandle" ∧ yX12_isWalk.cls ≠ "java/lang/invoke/VarHandle" ∧ (parseMethodDescriptor yX12_isWalk.desc).map (fun d => d.parameters.length) = some 3 := by decide +kernel
theorem ml_RX12_348 : MLp RX12 348 yX12_isWalk cX12_isWalk 4 (some .boolean) 3 := ⟨(inT_8 166 rfl rfl), in_yX12_isWalk, co_yX12_isWalk, pm_yX12_isWalk⟩
theorem mv_yX12_isWalk : MVp yX12_isWalk := ⟨(inT_8 168 rfl rfl), (inP_6 14 rfl rfl rfl)⟩
theorem in_yX12_withAt : Cond.initialized yX12_withAt.cls ∈ UU := (inT_1 13 rfl rfl)
theorem co_yX12_withAt : Cond.code yX12_withAt cX12_withAt 2 none ∈ UU := (inT_8 173 rfl rfl)
theorem pm_yX12_withAt : yX12_withAt.cls ≠ "java/lang/invoke/MethodHandle" ∧ yX12_withAt.cls ≠ "java/lang/invoke/VarHandle" ∧ (parseMethodDescriptor yX12_withAt.desc).map (fun d => d.parameters.length) = some 1 := by decide +kernel
theorem ml_RX12_351 : MLp RX12 351 yX12_withAt cX12_withAt 2 none 1 := ⟨(inT_8 170 rfl rfl), in_yX12_withAt, co_yX12_withAt, pm_yX12_withAt⟩
theorem mv_yX12_withAt : MVp yX12_withAt := ⟨(inT_8 172 rfl rfl), (inP_6 15 rfl rfl rfl)⟩
theorem in_yX12_mayPass : Cond.initialized yX12_mayPass.cls ∈ UU := (inT_1 13 rfl rfl)
theorem co_yX12_mayPass : Cond.code yX12_mayPass cX12_mayPass 2 (some .boolean) ∈ UU := (inT_8 177 rfl rfl)
theorem pm_yX12_mayPass : yX12_mayPass.cls ≠ "java/lang/invoke/MethodHandle" ∧ yX12_mayPass.cls ≠ "java/lang/invoke/VarHandle" ∧ (parseMethodDescriptor yX12_mayPass.desc).map (fun d => d.parameters.length) = some 1 := by decide +kernel
theorem ml_RX12_354 : MLp RX12 354 yX12_mayPass cX12_mayPass 2 (some .boolean) 1 := ⟨(inT_8 174 rfl rfl), in_yX12_mayPass, co_yX12_mayPass, pm_yX12_mayPass⟩
theorem mv_yX12_mayPass : MVp yX12_mayPass := ⟨(inT_8 176 rfl rfl), (inP_7 0 rfl rfl rfl)⟩
theorem in_yX12_octet : Cond.initialized yX12_octet.cls ∈ UU := (inT_1 13 rfl rfl)
theorem co_yX12_octet : Cond.code yX12_octet cX12_octet 2 (some .int) ∈ UU := (inT_8 189 rfl rfl)
theorem pm_yX12_octet : yX12_octet.cls ≠ "java/lang/invoke/MethodHandle" ∧ yX12_octet.cls ≠ "java/lang/invoke/VarHandle" ∧ (parseMethodDescriptor yX12_octet.desc).map (fun d => d.parameters.length) = some 1 := by decide +kernel
theorem ml_RX12_357 : MLp RX12 357 yX12_octet cX12_octet 2 (some .int) 1 := ⟨(inT_8 186 rfl rfl), in_yX12_octet, co_yX12_octet, pm_yX12_octet⟩
theorem mv_yX12_octet : MVp yX12_octet := ⟨(inT_8 188 rfl rfl), (inP_7 1 rfl rfl rfl)⟩
theorem in_yX12_nowStands : Cond.initialized yX12_nowStands.cls ∈ UU := (inT_1 13 rfl rfl)
theorem co_yX12_nowStands : Cond.code yX12_nowStands cX12_nowStands 3 none ∈ UU := (inT_8 210 rfl rfl)
theorem pm_yX12_nowStands : yX12_nowStands.cls ≠ "java/lang/invoke/MethodHandle" ∧ yX12_nowStands.cls ≠ "java/lang/invoke/VarHandle" ∧ (parseMethodDescriptor yX12_nowStands.desc).map (fun d => d.parameters.length) = some 1 := by decide +kernel
theorem ml_RX12_361 : MLp RX12 361 yX12_nowStands cX12_nowStands 3 none 1 := ⟨(inT_8 207 rfl rfl), in_yX12_nowStands, co_yX12_nowStands, pm_yX12_nowStands⟩
theorem mv_yX12_nowStands : MVp yX12_nowStands := ⟨(inT_8 209 rfl rfl), (inP_7 2 rfl rfl rfl)⟩
theorem in_yX12_unitsOf : Cond.initialized yX12_unitsOf.cls ∈ UU := (inT_1 13 rfl rfl)
theorem co_yX12_unitsOf : Cond.code yX12_unitsOf cX12_unitsOf 5 (some .int) ∈ UU := (inT_8 214 rfl rfl)
theorem pm_yX12_unitsOf : yX12_unitsOf.cls ≠ "java/lang/invoke/MethodHandle" ∧ yX12_unitsOf.cls ≠ "java/lang/invoke/VarHandle" ∧ (parseMethodDescriptor yX12_unitsOf.desc).map (fun d => d.parameters.length) = some 2 := by decide +kernel
theorem ml_RX12_364 : MLp RX12 364 yX12_unitsOf cX12_unitsOf 5 (some .int) 2 := ⟨(inT_8 211 rfl rfl), in_yX12_unitsOf, co_yX12_unitsOf, pm_yX12_unitsOf⟩
theorem mv_yX12_unitsOf : MVp yX12_unitsOf := ⟨(inT_8 213 rfl rfl), (inP_7 3 rfl rfl rfl)⟩
theorem in_yX12_dragOf : Cond.initialized yX12_dragOf.cls ∈ UU := (inT_1 13 rfl rfl)
theorem co_yX12_dragOf : Cond.code yX12_dragOf cX12_dragOf 3 (some .int) ∈ UU := (inT_8 222 rfl rfl)
theorem pm_yX12_dragOf : yX12_dragOf.cls ≠ "java/lang/invoke/MethodHandle" ∧ yX12_dragOf.cls ≠ "java/lang/invoke/VarHandle" ∧ (parseMethodDescriptor yX12_dragOf.desc).map (fun d => d.parameters.length) = some 2 := by decide +kernel
theorem ml_RX12_367 : MLp RX12 367 yX12_dragOf cX12_dragOf 3 (some .int) 2 := ⟨(inT_8 219 rfl rfl), in_yX12_dragOf, co_yX12_dragOf, pm_yX12_dragOf⟩
theorem mv_yX12_dragOf : MVp yX12_dragOf := ⟨(inT_8 221 rfl rfl), (inP_7 4 rfl rfl rfl)⟩
theorem in_yX12_partsAt : Cond.initialized yX12_partsAt.cls ∈ UU := (inT_1 13 rfl rfl)
theorem co_yX12_partsAt : Cond.code yX12_partsAt cX12_partsAt 5 none ∈ UU := (inT_9 2 rfl rfl)
theorem pm_yX12_partsAt : yX12_partsAt.cls ≠ "java/lang/invoke/MethodHandle" ∧ yX12_partsAt.cls ≠ "java/lang/invoke/VarHandle" ∧ (parseMethodDescriptor yX12_partsAt.desc).map (fun d => d.parameters.length) = some 1 := by decide +kernel
theorem ml_RX12_370 : MLp RX12 370 yX12_partsAt cX12_partsAt 5 none 1 := ⟨(inT_8 239 rfl rfl), in_yX12_partsAt, co_yX12_partsAt, pm_yX12_partsAt⟩
theorem mv_yX12_partsAt : MVp yX12_partsAt := ⟨(inT_9 1 rfl rfl), (inP_7 7 rfl rfl rfl)⟩
theorem in_yX12_move : Cond.initialized yX12_move.cls ∈ UU := (inT_1 13 rfl rfl)
theorem co_yX12_move : Cond.code yX12_move cX12_move 6 (some .int) ∈ UU := (inT_8 238 rfl rfl)
theorem pm_yX12_move : yX12_move.cls ≠ "java/lang/invoke/MethodHandle" ∧ yX12_move.cls ≠ "java/lang/invoke/VarHandle" ∧ (parseMethodDescriptor yX12_move.desc).map (fun d => d.parameters.length) = some 1 := by decide +kernel
theorem ml_RX12_379 : MLp RX12 379 yX12_move cX12_move 6 (some .int) 1 := ⟨(inT_8 235 rfl rfl), in_yX12_move, co_yX12_move, pm_yX12_move⟩
theorem mv_yX12_move : MVp yX12_move := ⟨(inT_8 237 rfl rfl), (inP_7 6 rfl rfl rfl)⟩
theorem in_yX12_moves : Cond.initialized yX12_moves.cls ∈ UU := (inT_1 13 rfl rfl)
theorem co_yX12_moves : Cond.code yX12_moves cX12_moves 3 none ∈ UU := (inT_8 234 rfl rfl)
theorem pm_yX12_moves : yX12_moves.cls ≠ "java/lang/invoke/MethodHandle" ∧ yX12_moves.cls ≠ "java/lang/invoke/VarHandle" ∧ (parseMethodDescriptor yX12_moves.desc).map (fun d => d.parameters.length) = some 2 := by decide +kernel
theorem ml_RX12_382 : MLp RX12 382 yX12_moves cX12_moves 3 none 2 := ⟨(inT_8 231 rfl rfl), in_yX12_moves, co_yX12_moves, pm_yX12_moves⟩
theorem mv_yX12_moves : MVp yX12_moves := ⟨(inT_8 233 rfl rfl), (inP_7 5 rfl rfl rfl)⟩
theorem in_yX12_planRow : Cond.initialized yX12_planRow.cls ∈ UU := (inT_1 13 rfl rfl)
theorem co_yX12_planRow : Cond.code yX12_planRow cX12_planRow 3 (some .boolean) ∈ UU := (inT_9 10 rfl rfl)
theorem pm_yX12_planRow : yX12_planRow.cls ≠ "java/lang/invoke/MethodHandle" ∧ yX12_planRow.cls ≠ "java/lang/invoke/VarHandle" ∧ (parseMethodDescriptor yX12_planRow.desc).map (fun d => d.parameters.length) = some 0 := by decide +kernel
theorem ml_RX12_388 : MLp RX12 388 yX12_planRow cX12_planRow 3 (some .boolean) 0 := ⟨(inT_9 7 rfl rfl), in_yX12_planRow, co_yX12_planRow, pm_yX12_planRow⟩
theorem mv_yX12_planRow : MVp yX12_planRow := ⟨(inT_9 9 rfl rfl), (inP_7 8 rfl rfl rfl)⟩
theorem in_yX12_does : Cond.initialized yX12_does.cls ∈ UU := (inT_1 13 rfl rfl)
theorem co_yX12_does : Cond.code yX12_does cX12_does 4 (some .int) ∈ UU := (inT_9 18 rfl rfl)
theorem pm_yX12_does : yX12_does.cls ≠ "java/lang/invoke/MethodHandle" ∧ yX12_does.cls ≠ "java/lang/invoke/VarHandle" ∧ (parseMethodDescriptor yX12_does.desc).map (fun d => d.parameters.length) = some 3 := by decide +kernel
theorem ml_RX12_391 : MLp RX12 391 yX12_does cX12_does 4 (some .int) 3 := ⟨(inT_9 15 rfl rfl), in_yX12_does, co_yX12_does, pm_yX12_does⟩
theorem mv_yX12_does : MVp yX12_does := ⟨(inT_9 17 rfl rfl), (inP_7 9 rfl rfl rfl)⟩
theorem in_yX12_draw : Cond.initialized yX12_draw.cls ∈ UU := (inT_1 13 rfl rfl)
theorem co_yX12_draw : Cond.code yX12_draw cX12_draw 2 (some .int) ∈ UU := (inT_9 38 rfl rfl)
theorem pm_yX12_draw : yX12_draw.cls ≠ "java/lang/invoke/MethodHandle" ∧ yX12_draw.cls ≠ "java/lang/invoke/VarHandle" ∧ (parseMethodDescriptor yX12_draw.desc).map (fun d => d.parameters.length) = some 1 := by decide +kernel
theorem ml_RX12_402 : MLp RX12 402 yX12_draw cX12_draw 2 (some .int) 1 := ⟨(inT_9 35 rfl rfl), in_yX12_draw, co_yX12_draw, pm_yX12_draw⟩
theorem mv_yX12_draw : MVp yX12_draw := ⟨(inT_9 37 rfl rfl), (inP_7 12 rfl rfl rfl)⟩
theorem in_yX12_drawnStrength : Cond.initialized yX12_drawnStrength.cls ∈ UU := (inT_1 13 rfl rfl)
theorem co_yX12_drawnStrength : Cond.code yX12_drawnStrength cX12_drawnStrength 2 (some .int) ∈ UU := (inT_9 34 rfl rfl)
theorem pm_yX12_drawnStrength : yX12_drawnStrength.cls ≠ "java/lang/invoke/MethodHandle" ∧ yX12_drawnStrength.cls ≠ "java/lang/invoke/VarHandle" ∧ (parseMethodDescriptor yX12_drawnStrength.desc).map (fun d => d.parameters.length) = some 1 := by decide +kernel
theorem ml_RX12_405 : MLp RX12 405 yX12_drawnStrength cX12_drawnStrength 2 (some .int) 1 := ⟨(inT_9 31 rfl rfl), in_yX12_drawnStrength, co_yX12_drawnStrength, pm_yX12_drawnStrength⟩
theorem mv_yX12_drawnStrength : MVp yX12_drawnStrength := ⟨(inT_9 33 rfl rfl), (inP_7 11 rfl rfl rfl)⟩
theorem in_yX12_betOf : Cond.initialized yX12_betOf.cls ∈ UU := (inT_1 13 rfl rfl)
theorem co_yX12_betOf : Cond.code yX12_betOf cX12_betOf 4 (some .int) ∈ UU := (inT_9 30 rfl rfl)
theorem pm_yX12_betOf : yX12_betOf.cls ≠ "java/lang/invoke/MethodHandle" ∧ yX12_betOf.cls ≠ "java/lang/invoke/VarHandle" ∧ (parseMethodDescriptor yX12_betOf.desc).map (fun d => d.parameters.length) = some 1 := by decide +kernel
theorem ml_RX12_408 : MLp RX12 408 yX12_betOf cX12_betOf 4 (some .int) 1 := ⟨(inT_9 27 rfl rfl), in_yX12_betOf, co_yX12_betOf, pm_yX12_betOf⟩
theorem mv_yX12_betOf : MVp yX12_betOf := ⟨(inT_9 29 rfl rfl), (inP_7 10 rfl rfl rfl)⟩
theorem in_yX2_runRow : Cond.initialized yX2_runRow.cls ∈ UU := (inT_1 12 rfl rfl)
theorem co_yX2_runRow : Cond.code yX2_runRow cX2_runRow 6 (some .int) ∈ UU := (inT_5 183 rfl rfl)
theorem pm_yX2_runRow : yX2_runRow.cls ≠ "java/lang/invoke/MethodHandle" ∧ yX2_runRow.cls ≠ "java/lang/invoke/VarHandle" ∧ (parseMethodDescriptor yX2_runRow.desc).map (fun d => d.parameters.length) = some 5 := by decide +kernel
theorem ml_RX2_36 : MLp RX2 36 yX2_runRow cX2_runRow 6 (some .int) 5 := ⟨(inT_5 180 rfl rfl), in_yX2_runRow, co_yX2_runRow, pm_yX2_runRow⟩
theorem mv_yX2_runRow : MVp yX2_runRow := ⟨(inT_5 182 rfl rfl), (inP_3 8 rfl rfl rfl)⟩
theorem in_yX2_runMoves : Cond.initialized yX2_runMoves.cls ∈ UU := (inT_1 12 rfl rfl)
theorem co_yX2_runMoves : Cond.code yX2_runMoves cX2_runMoves 7 (some .int) ∈ UU := (inT_5 187 rfl rfl)
theorem pm_yX2_runMoves : yX2_runMoves.cls ≠ "java/lang/invoke/MethodHandle" ∧ yX2_runMoves.cls ≠ "java/lang/invoke/VarHandle" ∧ (parseMethodDescriptor yX2_runMoves.desc).map (fun d => d.parameters.length) = some 4 := by decide +kernel
theorem ml_RX2_63 : MLp RX2 63 yX2_runMoves cX2_runMoves 7 (some .int) 4 := ⟨(inT_5 184 rfl rfl), in_yX2_runMoves, co_yX2_runMoves, pm_yX2_runMoves⟩
theorem mv_yX2_runMoves : MVp yX2_runMoves := ⟨(inT_5 186 rfl rfl), (inP_3 9 rfl rfl rfl)⟩
theorem ml_RX2_83 : MLp RX2 83 yX10_move cX10_move 5 (some .int) 2 := ⟨(inT_5 188 rfl rfl), in_yX10_move, co_yX10_move, pm_yX10_move⟩
theorem ml_RX2_87 : MLp RX2 87 yX8_helperCount cX8_helperCount 3 (some .int) 0 := ⟨(inT_5 192 rfl rfl), in_yX8_helperCount, co_yX8_helperCount, pm_yX8_helperCount⟩
theorem ml_RX2_91 : MLp RX2 91 yX8_help cX8_help 3 none 2 := ⟨(inT_5 193 rfl rfl), in_yX8_help, co_yX8_help, pm_yX8_help⟩
theorem in_yX8_dismissHelpers : Cond.initialized yX8_dismissHelpers.cls ∈ UU := (inT_1 8 rfl rfl)
theorem co_yX8_dismissHelpers : Cond.code yX8_dismissHelpers cX8_dismissHelpers 2 none ∈ UU := (inT_5 200 rfl rfl)
theorem pm_yX8_dismissHelpers : yX8_dismissHelpers.cls ≠ "java/lang/invoke/MethodHandle" ∧ yX8_dismissHelpers.cls ≠ "java/lang/invoke/VarHandle" ∧ (parseMethodDescriptor yX8_dismissHelpers.desc).map (fun d => d.parameters.length) = some 0 := by decide +kernel
theorem ml_RX2_95 : MLp RX2 95 yX8_dismissHelpers cX8_dismissHelpers 2 none 0 := ⟨(inT_5 197 rfl rfl), in_yX8_dismissHelpers, co_yX8_dismissHelpers, pm_yX8_dismissHelpers⟩
theorem mv_yX8_dismissHelpers : MVp yX8_dismissHelpers := ⟨(inT_5 198 rfl rfl), (inT_5 199 rfl rfl)⟩
theorem ml_RX2_98 : MLp RX2 98 yX10_part cX10_part 2 none 1 := ⟨(inT_5 204 rfl rfl), in_yX10_part, co_yX10_part, pm_yX10_part⟩
theorem in_yX3_clear : Cond.initialized yX3_clear.cls ∈ UU := (inT_1 5 rfl rfl)
theorem co_yX3_clear : Cond.code yX3_clear cX3_clear 1 none ∈ UU := (inT_1 119 rfl rfl)
theorem pm_yX3_clear : yX3_clear.cls ≠ "java/lang/invoke/MethodHandle" ∧ yX3_clear.cls ≠ "java/lang/invoke/VarHandle" ∧ (parseMethodDescriptor yX3_clear.desc).map (fun d => d.parameters.length) = some 0 := by decide +kernel
theorem ml_RX3_27 : MLp RX3 27 yX3_clear cX3_clear 1 none 0 := ⟨(inT_1 116 rfl rfl), in_yX3_clear, co_yX3_clear, pm_yX3_clear⟩
theorem mv_yX3_clear : MVp yX3_clear := ⟨(inT_1 117 rfl rfl), (inT_1 118 rfl rfl)⟩
theorem ml_RX3_70 : MLp RX3 70 yX3_gradeOf cX3_gradeOf 2 (some .int) 1 := ⟨(inT_4 78 rfl rfl), in_yX3_gradeOf, co_yX3_gradeOf, pm_yX3_gradeOf⟩
theorem ml_RX3_74 : MLp RX3 74 yX3_haltAt cX3_haltAt 2 (some .int) 1 := ⟨(inT_6 158 rfl rfl), in_yX3_haltAt, co_yX3_haltAt, pm_yX3_haltAt⟩
theorem in_yX7_isNumber : Cond.initialized yX7_isNumber.cls ∈ UU := (inT_1 3 rfl rfl)
theorem co_yX7_isNumber : Cond.code yX7_isNumber cX7_isNumber 3 (some .boolean) ∈ UU := (inT_3 175 rfl rfl)
theorem pm_yX7_isNumber : yX7_isNumber.cls ≠ "java/lang/invoke/MethodHandle" ∧ yX7_isNumber.cls ≠ "java/lang/invoke/VarHandle" ∧ (parseMethodDescriptor yX7_isNumber.desc).map (fun d => d.parameters.length) = some 2 := by decide +kernel
theorem ml_RX4_100 : MLp RX4 100 yX7_isNumber cX7_isNumber 3 (some .boolean) 2 := ⟨(inT_3 172 rfl rfl), in_yX7_isNumber, co_yX7_isNumber, pm_yX7_isNumber⟩
theorem mv_yX7_isNumber : MVp yX7_isNumber := ⟨(inT_3 173 rfl rfl), (inT_3 174 rfl rfl)⟩
theorem in_yX7_nextNumber : Cond.initialized yX7_nextNumber.cls ∈ UU := (inT_1 3 rfl rfl)
theorem co_yX7_nextNumber : Cond.code yX7_nextNumber cX7_nextNumber 3 (some .boolean) ∈ UU := (inT_3 180 rfl rfl)
theorem pm_yX7_nextNumber : yX7_nextNumber.cls ≠ "java/lang/invoke/MethodHandle" ∧ yX7_nextNumber.cls ≠ "java/lang/invoke/VarHandle" ∧ (parseMethodDescriptor yX7_nextNumber.desc).map (fun d => d.parameters.length) = some 2 := by decide +kernel
theorem ml_RX4_107 : MLp RX4 107 yX7_nextNumber cX7_nextNumber 3 (some .boolean) 2 := ⟨(inT_3 177 rfl rfl), in_yX7_nextNumber, co_yX7_nextNumber, pm_yX7_nextNumber⟩
theorem mv_yX7_nextNumber : MVp yX7_nextNumber := ⟨(inT_3 178 rfl rfl), (inT_3 179 rfl rfl)⟩
theorem in_yX4_nextNewName : Cond.initialized yX4_nextNewName.cls ∈ UU := (inT_1 2 rfl rfl)
theorem co_yX4_nextNewName : Cond.code yX4_nextNewName cX4_nextNewName 2 (some .boolean) ∈ UU := (inT_3 194 rfl rfl)
theorem pm_yX4_nextNewName : yX4_nextNewName.cls ≠ "java/lang/invoke/MethodHandle" ∧ yX4_nextNewName.cls ≠ "java/lang/invoke/VarHandle" ∧ (parseMethodDescriptor yX4_nextNewName.desc).map (fun d => d.parameters.length) = some 0 := by decide +kernel
theorem ml_RX4_120 : MLp RX4 120 yX4_nextNewName cX4_nextNewName 2 (some .boolean) 0 := ⟨(inT_3 191 rfl rfl), in_yX4_nextNewName, co_yX4_nextNewName, pm_yX4_nextNewName⟩
theorem mv_yX4_nextNewName : MVp yX4_nextNewName := ⟨(inT_3 193 rfl rfl), (inP_1 7 rfl rfl rfl)⟩
theorem ml_RX4_127 : MLp RX4 127 yX3_haltAt cX3_haltAt 2 (some .int) 1 := ⟨(inT_3 211 rfl rfl), in_yX3_haltAt, co_yX3_haltAt, pm_yX3_haltAt⟩
theorem in_yX7_nextName : Cond.initialized yX7_nextName.cls ∈ UU := (inT_1 3 rfl rfl)
theorem co_yX7_nextName : Cond.code yX7_nextName cX7_nextName 1 (some .boolean) ∈ UU := (inT_3 230 rfl rfl)
theorem pm_yX7_nextName : yX7_nextName.cls ≠ "java/lang/invoke/MethodHandle" ∧ yX7_nextName.cls ≠ "java/lang/invoke/VarHandle" ∧ (parseMethodDescriptor yX7_nextName.desc).map (fun d => d.parameters.length) = some 0 := by decide +kernel
theorem ml_RX4_145 : MLp RX4 145 yX7_nextName cX7_nextName 1 (some .boolean) 0 := ⟨(inT_3 227 rfl rfl), in_yX7_nextName, co_yX7_nextName, pm_yX7_nextName⟩
theorem mv_yX7_nextName : MVp yX7_nextName := ⟨(inT_3 228 rfl rfl), (inT_3 229 rfl rfl)⟩
theorem in_yX4_haltNamed : Cond.initialized yX4_haltNamed.cls ∈ UU := (inT_1 2 rfl rfl)
theorem co_yX4_haltNamed : Cond.code yX4_haltNamed cX4_haltNamed 3 (some .int) ∈ UU := (inT_3 203 rfl rfl)
theorem pm_yX4_haltNamed : yX4_haltNamed.cls ≠ "java/lang/invoke/MethodHandle" ∧ yX4_haltNamed.cls ≠ "java/lang/invoke/VarHandle" ∧ (parseMethodDescriptor yX4_haltNamed.desc).map (fun d => d.parameters.length) = some 1 := by decide +kernel
theorem ml_RX4_148 : MLp RX4 148 yX4_haltNamed cX4_haltNamed 3 (some .int) 1 := ⟨(inT_3 200 rfl rfl), in_yX4_haltNamed, co_yX4_haltNamed, pm_yX4_haltNamed⟩
theorem mv_yX4_haltNamed : MVp yX4_haltNamed := ⟨(inT_3 202 rfl rfl), (inP_1 8 rfl rfl rfl)⟩
theorem in_yX3_haltAdds : Cond.initialized yX3_haltAdds.cls ∈ UU := (inT_1 5 rfl rfl)
theorem co_yX3_haltAdds : Cond.code yX3_haltAdds cX3_haltAdds 2 (some .int) ∈ UU := (inT_3 235 rfl rfl)
theorem pm_yX3_haltAdds : yX3_haltAdds.cls ≠ "java/lang/invoke/MethodHandle" ∧ yX3_haltAdds.cls ≠ "java/lang/invoke/VarHandle" ∧ (parseMethodDescriptor yX3_haltAdds.desc).map (fun d => d.parameters.length) = some 1 := by decide +kernel
theorem ml_RX4_152 : MLp RX4 152 yX3_haltAdds cX3_haltAdds 2 (some .int) 1 := ⟨(inT_3 232 rfl rfl), in_yX3_haltAdds, co_yX3_haltAdds, pm_yX3_haltAdds⟩
theorem mv_yX3_haltAdds : MVp yX3_haltAdds := ⟨(inT_3 233 rfl rfl), (inT_3 234 rfl rfl)⟩
theorem in_yX4_kindNamed : Cond.initialized yX4_kindNamed.cls ∈ UU := (inT_1 2 rfl rfl)
theorem co_yX4_kindNamed : Cond.code yX4_kindNamed cX4_kindNamed 3 (some .int) ∈ UU := (inT_3 210 rfl rfl)
theorem pm_yX4_kindNamed : yX4_kindNamed.cls ≠ "java/lang/invoke/MethodHandle" ∧ yX4_kindNamed.cls ≠ "java/lang/invoke/VarHandle" ∧ (parseMethodDescriptor yX4_kindNamed.desc).map (fun d => d.parameters.length) = some 1 := by decide +kernel
theorem ml_RX4_155 : MLp RX4 155 yX4_kindNamed cX4_kindNamed 3 (some .int) 1 := ⟨(inT_3 207 rfl rfl), in_yX4_kindNamed, co_yX4_kindNamed, pm_yX4_kindNamed⟩
theorem mv_yX4_kindNamed : MVp yX4_kindNamed := ⟨(inT_3 209 rfl rfl), (inP_1 9 rfl rfl rfl)⟩
theorem in_yX7_isName : Cond.initialized yX7_isName.cls ∈ UU := (inT_1 3 rfl rfl)
theorem co_yX7_isName : Cond.code yX7_isName cX7_isName 1 (some .boolean) ∈ UU := (inT_3 198 rfl rfl)
theorem pm_yX7_isName : yX7_isName.cls ≠ "java/lang/invoke/MethodHandle" ∧ yX7_isName.cls ≠ "java/lang/invoke/VarHandle" ∧ (parseMethodDescriptor yX7_isName.desc).map (fun d => d.parameters.length) = some 0 := by decide +kernel
theorem ml_RX4_176 : MLp RX4 176 yX7_isName cX7_isName 1 (some .boolean) 0 := ⟨(inT_3 195 rfl rfl), in_yX7_isName, co_yX7_isName, pm_yX7_isName⟩
theorem mv_yX7_isName : MVp yX7_isName := ⟨(inT_3 196 rfl rfl), (inT_3 197 rfl rfl)⟩
theorem in_yX7_open : Cond.initialized yX7_open.cls ∈ UU := (inT_1 3 rfl rfl)
theorem co_yX7_open : Cond.code yX7_open cX7_open 4 none ∈ UU := (inT_3 82 rfl rfl)
theorem pm_yX7_open : yX7_open.cls ≠ "java/lang/invoke/MethodHandle" ∧ yX7_open.cls ≠ "java/lang/invoke/VarHandle" ∧ (parseMethodDescriptor yX7_open.desc).map (fun d => d.parameters.length) = some 3 := by decide +kernel
theorem ml_RX4_25 : MLp RX4 25 yX7_open cX7_open 4 none 3 := ⟨(inT_3 79 rfl rfl), in_yX7_open, co_yX7_open, pm_yX7_open⟩
theorem mv_yX7_open : MVp yX7_open := ⟨(inT_3 80 rfl rfl), (inT_3 81 rfl rfl)⟩
theorem ml_RX4_33 : MLp RX4 33 yX3_clear cX3_clear 1 none 0 := ⟨(inT_3 86 rfl rfl), in_yX3_clear, co_yX3_clear, pm_yX3_clear⟩
theorem in_yX7_advance : Cond.initialized yX7_advance.cls ∈ UU := (inT_1 3 rfl rfl)
theorem co_yX7_advance : Cond.code yX7_advance cX7_advance 3 none ∈ UU := (inT_3 90 rfl rfl)
theorem pm_yX7_advance : yX7_advance.cls ≠ "java/lang/invoke/MethodHandle" ∧ yX7_advance.cls ≠ "java/lang/invoke/VarHandle" ∧ (parseMethodDescriptor yX7_advance.desc).map (fun d => d.parameters.length) = some 0 := by decide +kernel
theorem ml_RX4_45 : MLp RX4 45 yX7_advance cX7_advance 3 none 0 := ⟨(inT_3 87 rfl rfl), in_yX7_advance, co_yX7_advance, pm_yX7_advance⟩
theorem mv_yX7_advance : MVp yX7_advance := ⟨(inT_3 88 rfl rfl), (inT_3 89 rfl rfl)⟩
theorem in_yX7_isAtEnd : Cond.initialized yX7_isAtEnd.cls ∈ UU := (inT_1 3 rfl rfl)
theorem co_yX7_isAtEnd : Cond.code yX7_isAtEnd cX7_isAtEnd 1 (some .boolean) ∈ UU := (inT_3 106 rfl rfl)
theorem pm_yX7_isAtEnd : yX7_isAtEnd.cls ≠ "java/lang/invoke/MethodHandle" ∧ yX7_isAtEnd.cls ≠ "java/lang/invoke/VarHandle" ∧ (parseMethodDescriptor yX7_isAtEnd.desc).map (fun d => d.parameters.length) = some 0 := by decide +kernel
theorem ml_RX4_48 : MLp RX4 48 yX7_isAtEnd cX7_isAtEnd 1 (some .boolean) 0 := ⟨(inT_3 103 rfl rfl), in_yX7_isAtEnd, co_yX7_isAtEnd, pm_yX7_isAtEnd⟩
theorem mv_yX7_isAtEnd : MVp yX7_isAtEnd := ⟨(inT_3 104 rfl rfl), (inT_3 105 rfl rfl)⟩
theorem in_yX7_keyword : Cond.initialized yX7_keyword.cls ∈ UU := (inT_1 3 rfl rfl)
theorem co_yX7_keyword : Cond.code yX7_keyword cX7_keyword 2 (some .int) ∈ UU := (inT_3 114 rfl rfl)
theorem pm_yX7_keyword : yX7_keyword.cls ≠ "java/lang/invoke/MethodHandle" ∧ yX7_keyword.cls ≠ "java/lang/invoke/VarHandle" ∧ (parseMethodDescriptor yX7_keyword.desc).map (fun d => d.parameters.length) = some 0 := by decide +kernel
theorem ml_RX4_52 : MLp RX4 52 yX7_keyword cX7_keyword 2 (some .int) 0 := ⟨(inT_3 111 rfl rfl), in_yX7_keyword, co_yX7_keyword, pm_yX7_keyword⟩
theorem mv_yX7_keyword : MVp yX7_keyword := ⟨(inT_3 112 rfl rfl), (inT_3 113 rfl rfl)⟩
theorem in_yX4_readRow : Cond.initialized yX4_readRow.cls ∈ UU := (inT_1 2 rfl rfl)
theorem co_yX4_readRow : Cond.code yX4_readRow cX4_readRow 2 (some .boolean) ∈ UU := (inT_3 163 rfl rfl)
theorem pm_yX4_readRow : yX4_readRow.cls ≠ "java/lang/invoke/MethodHandle" ∧ yX4_readRow.cls ≠ "java/lang/invoke/VarHandle" ∧ (parseMethodDescriptor yX4_readRow.desc).map (fun d => d.parameters.length) = some 1 := by decide +kernel
theorem ml_RX4_56 : MLp RX4 56 yX4_readRow cX4_readRow 2 (some .boolean) 1 := ⟨(inT_3 160 rfl rfl), in_yX4_readRow, co_yX4_readRow, pm_yX4_readRow⟩
theorem mv_yX4_readRow : MVp yX4_readRow := ⟨(inT_3 162 rfl rfl), (inP_1 4 rfl rfl rfl)⟩
theorem in_yX7_answer : Cond.initialized yX7_answer.cls ∈ UU := (inT_1 3 rfl rfl)
theorem co_yX7_answer : Cond.code yX7_answer cX7_answer 2 (some .int) ∈ UU := (inT_4 15 rfl rfl)
theorem pm_yX7_answer : yX7_answer.cls ≠ "java/lang/invoke/MethodHandle" ∧ yX7_answer.cls ≠ "java/lang/invoke/VarHandle" ∧ (parseMethodDescriptor yX7_answer.desc).map (fun d => d.parameters.length) = some 1 := by decide +kernel
theorem ml_RX4_60 : MLp RX4 60 yX7_answer cX7_answer 2 (some .int) 1 := ⟨(inT_4 12 rfl rfl), in_yX7_answer, co_yX7_answer, pm_yX7_answer⟩
theorem mv_yX7_answer : MVp yX7_answer := ⟨(inT_4 13 rfl rfl), (inT_4 14 rfl rfl)⟩
theorem in_yX4_readSlope : Cond.initialized yX4_readSlope.cls ∈ UU := (inT_1 2 rfl rfl)
theorem co_yX4_readSlope : Cond.code yX4_readSlope cX4_readSlope 4 (some .boolean) ∈ UU := (inT_3 167 rfl rfl)
theorem pm_yX4_readSlope : yX4_readSlope.cls ≠ "java/lang/invoke/MethodHandle" ∧ yX4_readSlope.cls ≠ "java/lang/invoke/VarHandle" ∧ (parseMethodDescriptor yX4_readSlope.desc).map (fun d => d.parameters.length) = some 0 := by decide +kernel
theorem ml_RX4_64 : MLp RX4 64 yX4_readSlope cX4_readSlope 4 (some .boolean) 0 := ⟨(inT_3 164 rfl rfl), in_yX4_readSlope, co_yX4_readSlope, pm_yX4_readSlope⟩
theorem mv_yX4_readSlope : MVp yX4_readSlope := ⟨(inT_3 166 rfl rfl), (inP_1 5 rfl rfl rfl)⟩
theorem in_yX7_nextCloses : Cond.initialized yX7_nextCloses.cls ∈ UU := (inT_1 3 rfl rfl)
theorem co_yX7_nextCloses : Cond.code yX7_nextCloses cX7_nextCloses 1 (some .boolean) ∈ UU := (inT_3 186 rfl rfl)
theorem pm_yX7_nextCloses : yX7_nextCloses.cls ≠ "java/lang/invoke/MethodHandle" ∧ yX7_nextCloses.cls ≠ "java/lang/invoke/VarHandle" ∧ (parseMethodDescriptor yX7_nextCloses.desc).map (fun d => d.parameters.length) = some 0 := by decide +kernel
theorem ml_RX4_67 : MLp RX4 67 yX7_nextCloses cX7_nextCloses 1 (some .boolean) 0 := ⟨(inT_3 183 rfl rfl), in_yX7_nextCloses, co_yX7_nextCloses, pm_yX7_nextCloses⟩
theorem mv_yX7_nextCloses : MVp yX7_nextCloses := ⟨(inT_3 184 rfl rfl), (inT_3 185 rfl rfl)⟩
theorem in_yX4_readHalt : Cond.initialized yX4_readHalt.cls ∈ UU := (inT_1 2 rfl rfl)
theorem co_yX4_readHalt : Cond.code yX4_readHalt cX4_readHalt 3 (some .boolean) ∈ UU := (inT_3 190 rfl rfl)
theorem pm_yX4_readHalt : yX4_readHalt.cls ≠ "java/lang/invoke/MethodHandle" ∧ yX4_readHalt.cls ≠ "java/lang/invoke/VarHandle" ∧ (parseMethodDescriptor yX4_readHalt.desc).map (fun d => d.parameters.length) = some 0 := by decide +kernel
theorem ml_RX4_70 : MLp RX4 70 yX4_readHalt cX4_readHalt 3 (some .boolean) 0 := ⟨(inT_3 187 rfl rfl), in_yX4_readHalt, co_yX4_readHalt, pm_yX4_readHalt⟩
theorem mv_yX4_readHalt : MVp yX4_readHalt := ⟨(inT_3 189 rfl rfl), (inP_1 6 rfl rfl rfl)⟩
theorem in_yX4_readLoop : Cond.initialized yX4_readLoop.cls ∈ UU := (inT_1 2 rfl rfl)
theorem co_yX4_readLoop : Cond.code yX4_readLoop cX4_readLoop 3 (some .boolean) ∈ UU := (inT_3 218 rfl rfl)
theorem pm_yX4_readLoop : yX4_readLoop.cls ≠ "java/lang/invoke/MethodHandle" ∧ yX4_readLoop.cls ≠ "java/lang/invoke/VarHandle" ∧ (parseMethodDescriptor yX4_readLoop.desc).map (fun d => d.parameters.length) = some 0 := by decide +kernel
theorem ml_RX4_73 : MLp RX4 73 yX4_readLoop cX4_readLoop 3 (some .boolean) 0 := ⟨(inT_3 215 rfl rfl), in_yX4_readLoop, co_yX4_readLoop, pm_yX4_readLoop⟩
theorem mv_yX4_readLoop : MVp yX4_readLoop := ⟨(inT_3 217 rfl rfl), (inP_1 10 rfl rfl rfl)⟩
theorem in_yX4_readKind : Cond.initialized yX4_readKind.cls ∈ UU := (inT_1 2 rfl rfl)
theorem co_yX4_readKind : Cond.code yX4_readKind cX4_readKind 2 (some .boolean) ∈ UU := (inT_3 222 rfl rfl)
theorem pm_yX4_readKind : yX4_readKind.cls ≠ "java/lang/invoke/MethodHandle" ∧ yX4_readKind.cls ≠ "java/lang/invoke/VarHandle" ∧ (parseMethodDescriptor yX4_readKind.desc).map (fun d => d.parameters.length) = some 0 := by decide +kernel
theorem ml_RX4_76 : MLp RX4 76 yX4_readKind cX4_readKind 2 (some .boolean) 0 := ⟨(inT_3 219 rfl rfl), in_yX4_readKind, co_yX4_readKind, pm_yX4_readKind⟩
theorem mv_yX4_readKind : MVp yX4_readKind := ⟨(inT_3 221 rfl rfl), (inP_1 11 rfl rfl rfl)⟩
theorem in_yX4_readAdds : Cond.initialized yX4_readAdds.cls ∈ UU := (inT_1 2 rfl rfl)
theorem co_yX4_readAdds : Cond.code yX4_readAdds cX4_readAdds 3 (some .boolean) ∈ UU := (inT_3 226 rfl rfl)
theorem pm_yX4_readAdds : yX4_readAdds.cls ≠ "java/lang/invoke/MethodHandle" ∧ yX4_readAdds.cls ≠ "java/lang/invoke/VarHandle" ∧ (parseMethodDescriptor yX4_readAdds.desc).map (fun d => d.parameters.length) = some 0 := by decide +kernel
theorem ml_RX4_79 : MLp RX4 79 yX4_readAdds cX4_readAdds 3 (some .boolean) 0 := ⟨(inT_3 223 rfl rfl), in_yX4_readAdds, co_yX4_readAdds, pm_yX4_readAdds⟩
theorem mv_yX4_readAdds : MVp yX4_readAdds := ⟨(inT_3 225 rfl rfl), (inP_1 12 rfl rfl rfl)⟩
theorem in_yX4_tellOnce : Cond.initialized yX4_tellOnce.cls ∈ UU := (inT_1 2 rfl rfl)
theorem co_yX4_tellOnce : Cond.code yX4_tellOnce cX4_tellOnce 2 (some .boolean) ∈ UU := (inT_3 239 rfl rfl)
theorem pm_yX4_tellOnce : yX4_tellOnce.cls ≠ "java/lang/invoke/MethodHandle" ∧ yX4_tellOnce.cls ≠ "java/lang/invoke/VarHandle" ∧ (parseMethodDescriptor yX4_tellOnce.desc).map (fun d => d.parameters.length) = some 1 := by decide +kernel
theorem ml_RX4_82 : MLp RX4 82 yX4_tellOnce cX4_tellOnce 2 (some .boolean) 1 := ⟨(inT_3 236 rfl rfl), in_yX4_tellOnce, co_yX4_tellOnce, pm_yX4_tellOnce⟩
theorem mv_yX4_tellOnce : MVp yX4_tellOnce := ⟨(inT_3 238 rfl rfl), (inP_1 13 rfl rfl rfl)⟩
theorem in_yX4_readEngine : Cond.initialized yX4_readEngine.cls ∈ UU := (inT_1 2 rfl rfl)
theorem co_yX4_readEngine : Cond.code yX4_readEngine cX4_readEngine 1 (some .boolean) ∈ UU := (inT_4 3 rfl rfl)
theorem pm_yX4_readEngine : yX4_readEngine.cls ≠ "java/lang/invoke/MethodHandle" ∧ yX4_readEngine.cls ≠ "java/lang/invoke/VarHandle" ∧ (parseMethodDescriptor yX4_readEngine.desc).map (fun d => d.parameters.length) = some 0 := by decide +kernel
theorem ml_RX4_85 : MLp RX4 85 yX4_readEngine cX4_readEngine 1 (some .boolean) 0 := ⟨(inT_4 0 rfl rfl), in_yX4_readEngine, co_yX4_readEngine, pm_yX4_readEngine⟩
theorem mv_yX4_readEngine : MVp yX4_readEngine := ⟨(inT_4 2 rfl rfl), (inP_1 14 rfl rfl rfl)⟩
theorem in_yX4_readNumber : Cond.initialized yX4_readNumber.cls ∈ UU := (inT_1 2 rfl rfl)
theorem co_yX4_readNumber : Cond.code yX4_readNumber cX4_readNumber 4 (some .boolean) ∈ UU := (inT_4 7 rfl rfl)
theorem pm_yX4_readNumber : yX4_readNumber.cls ≠ "java/lang/invoke/MethodHandle" ∧ yX4_readNumber.cls ≠ "java/lang/invoke/VarHandle" ∧ (parseMethodDescriptor yX4_readNumber.desc).map (fun d => d.parameters.length) = some 1 := by decide +kernel
theorem ml_RX4_88 : MLp RX4 88 yX4_readNumber cX4_readNumber 4 (some .boolean) 1 := ⟨(inT_4 4 rfl rfl), in_yX4_readNumber, co_yX4_readNumber, pm_yX4_readNumber⟩
theorem mv_yX4_readNumber : MVp yX4_readNumber := ⟨(inT_4 6 rfl rfl), (inP_1 15 rfl rfl rfl)⟩
theorem in_yX4_readTrain : Cond.initialized yX4_readTrain.cls ∈ UU := (inT_1 2 rfl rfl)
theorem co_yX4_readTrain : Cond.code yX4_readTrain cX4_readTrain 3 (some .boolean) ∈ UU := (inT_4 11 rfl rfl)
theorem pm_yX4_readTrain : yX4_readTrain.cls ≠ "java/lang/invoke/MethodHandle" ∧ yX4_readTrain.cls ≠ "java/lang/invoke/VarHandle" ∧ (parseMethodDescriptor yX4_readTrain.desc).map (fun d => d.parameters.length) = some 0 := by decide +kernel
theorem ml_RX4_91 : MLp RX4 91 yX4_readTrain cX4_readTrain 3 (some .boolean) 0 := ⟨(inT_4 8 rfl rfl), in_yX4_readTrain, co_yX4_readTrain, pm_yX4_readTrain⟩
theorem mv_yX4_readTrain : MVp yX4_readTrain := ⟨(inT_4 10 rfl rfl), (inP_2 0 rfl rfl rfl)⟩
theorem in_yX7_failHere : Cond.initialized yX7_failHere.cls ∈ UU := (inT_1 3 rfl rfl)
theorem co_yX7_failHere : Cond.code yX7_failHere cX7_failHere 2 (some .boolean) ∈ UU := (inT_3 171 rfl rfl)
theorem pm_yX7_failHere : yX7_failHere.cls ≠ "java/lang/invoke/MethodHandle" ∧ yX7_failHere.cls ≠ "java/lang/invoke/VarHandle" ∧ (parseMethodDescriptor yX7_failHere.desc).map (fun d => d.parameters.length) = some 1 := by decide +kernel
theorem ml_RX4_94 : MLp RX4 94 yX7_failHere cX7_failHere 2 (some .boolean) 1 := ⟨(inT_3 168 rfl rfl), in_yX7_failHere, co_yX7_failHere, pm_yX7_failHere⟩
theorem mv_yX7_failHere : MVp yX7_failHere := ⟨(inT_3 169 rfl rfl), (inT_3 170 rfl rfl)⟩
theorem ml_RX5_102 : MLp RX5 102 yX3_gradeOf cX3_gradeOf 2 (some .int) 1 := ⟨(inT_5 8 rfl rfl), in_yX3_gradeOf, co_yX3_gradeOf, pm_yX3_gradeOf⟩
theorem in_yX5_search : Cond.initialized yX5_search.cls ∈ UU := (inT_1 11 rfl rfl)
theorem co_yX5_search : Cond.code yX5_search cX5_search 8 none ∈ UU := (inT_5 12 rfl rfl)
theorem pm_yX5_search : yX5_search.cls ≠ "java/lang/invoke/MethodHandle" ∧ yX5_search.cls ≠ "java/lang/invoke/VarHandle" ∧ (parseMethodDescriptor yX5_search.desc).map (fun d => d.parameters.length) = some 3 := by decide +kernel
theorem ml_RX5_114 : MLp RX5 114 yX5_search cX5_search 8 none 3 := ⟨(inT_5 9 rfl rfl), in_yX5_search, co_yX5_search, pm_yX5_search⟩
theorem mv_yX5_search : MVp yX5_search := ⟨(inT_5 11 rfl rfl), (inP_2 7 rfl rfl rfl)⟩
theorem in_yX5_mayBeBetter : Cond.initialized yX5_mayBeBetter.cls ∈ UU := (inT_1 11 rfl rfl)
theorem co_yX5_mayBeBetter : Cond.code yX5_mayBeBetter cX5_mayBeBetter 8 (some .boolean) ∈ UU := (inT_5 16 rfl rfl)
theorem pm_yX5_mayBeBetter : yX5_mayBeBetter.cls ≠ "java/lang/invoke/MethodHandle" ∧ yX5_mayBeBetter.cls ≠ "java/lang/invoke/VarHandle" ∧ (parseMethodDescriptor yX5_mayBeBetter.desc).map (fun d => d.parameters.length) = some 4 := by decide +kernel
theorem ml_RX5_118 : MLp RX5 118 yX5_mayBeBetter cX5_mayBeBetter 8 (some .boolean) 4 := ⟨(inT_5 13 rfl rfl), in_yX5_mayBeBetter, co_yX5_mayBeBetter, pm_yX5_mayBeBetter⟩
theorem mv_yX5_mayBeBetter : MVp yX5_mayBeBetter := ⟨(inT_5 15 rfl rfl), (inP_2 8 rfl rfl rfl)⟩
theorem in_yX5_branch : Cond.initialized yX5_branch.cls ∈ UU := (inT_1 11 rfl rfl)
theorem co_yX5_branch : Cond.code yX5_branch cX5_branch 6 none ∈ UU := (inT_5 42 rfl rfl)
theorem pm_yX5_branch : yX5_branch.cls ≠ "java/lang/invoke/MethodHandle" ∧ yX5_branch.cls ≠ "java/lang/invoke/VarHandle" ∧ (parseMethodDescriptor yX5_branch.desc).map (fun d => d.parameters.length) = some 4 := by decide +kernel
theorem ml_RX5_122 : MLp RX5 122 yX5_branch cX5_branch 6 none 4 := ⟨(inT_5 39 rfl rfl), in_yX5_branch, co_yX5_branch, pm_yX5_branch⟩
theorem mv_yX5_branch : MVp yX5_branch := ⟨(inT_5 41 rfl rfl), (inP_2 12 rfl rfl rfl)⟩
theorem ml_RX5_132 : MLp RX5 132 yX8_copyFrom cX8_copyFrom 2 none 1 := ⟨(inT_5 17 rfl rfl), in_yX8_copyFrom, co_yX8_copyFrom, pm_yX8_copyFrom⟩
theorem in_yX5_isWornBy : Cond.initialized yX5_isWornBy.cls ∈ UU := (inT_1 11 rfl rfl)
theorem co_yX5_isWornBy : Cond.code yX5_isWornBy cX5_isWornBy 7 (some .boolean) ∈ UU := (inT_5 27 rfl rfl)
theorem pm_yX5_isWornBy : yX5_isWornBy.cls ≠ "java/lang/invoke/MethodHandle" ∧ yX5_isWornBy.cls ≠ "java/lang/invoke/VarHandle" ∧ (parseMethodDescriptor yX5_isWornBy.desc).map (fun d => d.parameters.length) = some 2 := by decide +kernel
theorem ml_RX5_139 : MLp RX5 139 yX5_isWornBy cX5_isWornBy 7 (some .boolean) 2 := ⟨(inT_5 24 rfl rfl), in_yX5_isWornBy, co_yX5_isWornBy, pm_yX5_isWornBy⟩
theorem mv_yX5_isWornBy : MVp yX5_isWornBy := ⟨(inT_5 26 rfl rfl), (inP_2 9 rfl rfl rfl)⟩
theorem in_yX5_isOverborneBy : Cond.initialized yX5_isOverborneBy.cls ∈ UU := (inT_1 11 rfl rfl)
theorem co_yX5_isOverborneBy : Cond.code yX5_isOverborneBy cX5_isOverborneBy 4 (some .boolean) ∈ UU := (inT_5 36 rfl rfl)
theorem pm_yX5_isOverborneBy : yX5_isOverborneBy.cls ≠ "java/lang/invoke/MethodHandle" ∧ yX5_isOverborneBy.cls ≠ "java/lang/invoke/VarHandle" ∧ (parseMethodDescriptor yX5_isOverborneBy.desc).map (fun d => d.parameters.length) = some 2 := by decide +kernel
theorem ml_RX5_143 : MLp RX5 143 yX5_isOverborneBy cX5_isOverborneBy 4 (some .boolean) 2 := ⟨(inT_5 33 rfl rfl), in_yX5_isOverborneBy, co_yX5_isOverborneBy, pm_yX5_isOverborneBy⟩
theorem mv_yX5_isOverborneBy : MVp yX5_isOverborneBy := ⟨(inT_5 35 rfl rfl), (inP_2 11 rfl rfl rfl)⟩
theorem in_yX5_gradesTo : Cond.initialized yX5_gradesTo.cls ∈ UU := (inT_1 11 rfl rfl)
theorem co_yX5_gradesTo : Cond.code yX5_gradesTo cX5_gradesTo 3 (some .int) ∈ UU := (inT_5 31 rfl rfl)
theorem pm_yX5_gradesTo : yX5_gradesTo.cls ≠ "java/lang/invoke/MethodHandle" ∧ yX5_gradesTo.cls ≠ "java/lang/invoke/VarHandle" ∧ (parseMethodDescriptor yX5_gradesTo.desc).map (fun d => d.parameters.length) = some 2 := by decide +kernel
theorem ml_RX5_152 : MLp RX5 152 yX5_gradesTo cX5_gradesTo 3 (some .int) 2 := ⟨(inT_5 28 rfl rfl), in_yX5_gradesTo, co_yX5_gradesTo, pm_yX5_gradesTo⟩
theorem mv_yX5_gradesTo : MVp yX5_gradesTo := ⟨(inT_5 30 rfl rfl), (inP_2 10 rfl rfl rfl)⟩
theorem ml_RX5_165 : MLp RX5 165 yX8_dropFrom cX8_dropFrom 3 none 1 := ⟨(inT_5 37 rfl rfl), in_yX8_dropFrom, co_yX8_dropFrom, pm_yX8_dropFrom⟩
theorem ml_RX5_168 : MLp RX5 168 yX8_isOverborne cX8_isOverborne 2 (some .boolean) 0 := ⟨(inT_5 38 rfl rfl), in_yX8_isOverborne, co_yX8_isOverborne, pm_yX8_isOverborne⟩
theorem in_yX5_draw : Cond.initialized yX5_draw.cls ∈ UU := (inT_1 11 rfl rfl)
theorem co_yX5_draw : Cond.code yX5_draw cX5_draw 2 (some .int) ∈ UU := (inT_5 237 rfl rfl)
theorem pm_yX5_draw : yX5_draw.cls ≠ "java/lang/invoke/MethodHandle" ∧ yX5_draw.cls ≠ "java/lang/invoke/VarHandle" ∧ (parseMethodDescriptor yX5_draw.desc).map (fun d => d.parameters.length) = some 1 := by decide +kernel
theorem ml_RX5_182 : MLp RX5 182 yX5_draw cX5_draw 2 (some .int) 1 := ⟨(inT_5 234 rfl rfl), in_yX5_draw, co_yX5_draw, pm_yX5_draw⟩
theorem mv_yX5_draw : MVp yX5_draw := ⟨(inT_5 236 rfl rfl), (inP_3 11 rfl rfl rfl)⟩
theorem in_yX5_drawnStrength : Cond.initialized yX5_drawnStrength.cls ∈ UU := (inT_1 11 rfl rfl)
theorem co_yX5_drawnStrength : Cond.code yX5_drawnStrength cX5_drawnStrength 2 (some .int) ∈ UU := (inT_5 233 rfl rfl)
theorem pm_yX5_drawnStrength : yX5_drawnStrength.cls ≠ "java/lang/invoke/MethodHandle" ∧ yX5_drawnStrength.cls ≠ "java/lang/invoke/VarHandle" ∧ (parseMethodDescriptor yX5_drawnStrength.desc).map (fun d => d.parameters.length) = some 1 := by decide +kernel
theorem ml_RX5_185 : MLp RX5 185 yX5_drawnStrength cX5_drawnStrength 2 (some .int) 1 := ⟨(inT_5 230 rfl rfl), in_yX5_drawnStrength, co_yX5_drawnStrength, pm_yX5_drawnStrength⟩
theorem mv_yX5_drawnStrength : MVp yX5_drawnStrength := ⟨(inT_5 232 rfl rfl), (inP_3 10 rfl rfl rfl)⟩
theorem ml_RX5_188 : MLp RX5 188 yX8_takeOn cX8_takeOn 3 none 1 := ⟨(inT_5 239 rfl rfl), in_yX8_takeOn, co_yX8_takeOn, pm_yX8_takeOn⟩
theorem in_yX5_findLeasts : Cond.initialized yX5_findLeasts.cls ∈ UU := (inT_1 11 rfl rfl)
theorem co_yX5_findLeasts : Cond.code yX5_findLeasts cX5_findLeasts 7 none ∈ UU := (inT_6 11 rfl rfl)
theorem pm_yX5_findLeasts : yX5_findLeasts.cls ≠ "java/lang/invoke/MethodHandle" ∧ yX5_findLeasts.cls ≠ "java/lang/invoke/VarHandle" ∧ (parseMethodDescriptor yX5_findLeasts.desc).map (fun d => d.parameters.length) = some 2 := by decide +kernel
theorem ml_RX5_191 : MLp RX5 191 yX5_findLeasts cX5_findLeasts 7 none 2 := ⟨(inT_6 8 rfl rfl), in_yX5_findLeasts, co_yX5_findLeasts, pm_yX5_findLeasts⟩
theorem mv_yX5_findLeasts : MVp yX5_findLeasts := ⟨(inT_6 10 rfl rfl), (inP_3 12 rfl rfl rfl)⟩
theorem in_yX5_isParted : Cond.initialized yX5_isParted.cls ∈ UU := (inT_1 11 rfl rfl)
theorem co_yX5_isParted : Cond.code yX5_isParted cX5_isParted 3 (some .boolean) ∈ UU := (inT_6 16 rfl rfl)
theorem pm_yX5_isParted : yX5_isParted.cls ≠ "java/lang/invoke/MethodHandle" ∧ yX5_isParted.cls ≠ "java/lang/invoke/VarHandle" ∧ (parseMethodDescriptor yX5_isParted.desc).map (fun d => d.parameters.length) = some 1 := by decide +kernel
theorem ml_RX5_195 : MLp RX5 195 yX5_isParted cX5_isParted 3 (some .boolean) 1 := ⟨(inT_6 13 rfl rfl), in_yX5_isParted, co_yX5_isParted, pm_yX5_isParted⟩
theorem mv_yX5_isParted : MVp yX5_isParted := ⟨(inT_6 15 rfl rfl), (inP_3 13 rfl rfl rfl)⟩
theorem ml_RX5_42 : MLp RX5 42 yX8_measure cX8_measure 5 (some .int) 1 := ⟨(inT_4 229 rfl rfl), in_yX8_measure, co_yX8_measure, pm_yX8_measure⟩
theorem ml_RX5_51 : MLp RX5 51 yX8_partingPlace cX8_partingPlace 3 (some .int) 1 := ⟨(inT_4 230 rfl rfl), in_yX8_partingPlace, co_yX8_partingPlace, pm_yX8_partingPlace⟩
theorem ml_RX5_58 : MLp RX5 58 yX8_addWear cX8_addWear 3 none 1 := ⟨(inT_4 231 rfl rfl), in_yX8_addWear, co_yX8_addWear, pm_yX8_addWear⟩
theorem ml_RX5_62 : MLp RX5 62 yX8_begin cX8_begin 3 none 1 := ⟨(inT_4 225 rfl rfl), in_yX8_begin, co_yX8_begin, pm_yX8_begin⟩
theorem in_yX8_arrive : Cond.initialized yX8_arrive.cls ∈ UU := (inT_1 8 rfl rfl)
theorem co_yX8_arrive : Cond.code yX8_arrive cX8_arrive 2 (some .int) ∈ UU := (inT_4 127 rfl rfl)
theorem pm_yX8_arrive : yX8_arrive.cls ≠ "java/lang/invoke/MethodHandle" ∧ yX8_arrive.cls ≠ "java/lang/invoke/VarHandle" ∧ (parseMethodDescriptor yX8_arrive.desc).map (fun d => d.parameters.length) = some 1 := by decide +kernel
theorem ml_RX5_73 : MLp RX5 73 yX8_arrive cX8_arrive 2 (some .int) 1 := ⟨(inT_4 232 rfl rfl), in_yX8_arrive, co_yX8_arrive, pm_yX8_arrive⟩
theorem mv_yX8_arrive : MVp yX8_arrive := ⟨(inT_4 125 rfl rfl), (inT_4 126 rfl rfl)⟩
theorem in_yX3_strengthOf : Cond.initialized yX3_strengthOf.cls ∈ UU := (inT_1 5 rfl rfl)
theorem co_yX3_strengthOf : Cond.code yX3_strengthOf cX3_strengthOf 2 (some .int) ∈ UU := (inT_4 44 rfl rfl)
theorem pm_yX3_strengthOf : yX3_strengthOf.cls ≠ "java/lang/invoke/MethodHandle" ∧ yX3_strengthOf.cls ≠ "java/lang/invoke/VarHandle" ∧ (parseMethodDescriptor yX3_strengthOf.desc).map (fun d => d.parameters.length) = some 1 := by decide +kernel
theorem ml_RX5_76 : MLp RX5 76 yX3_strengthOf cX3_strengthOf 2 (some .int) 1 := ⟨(inT_4 233 rfl rfl), in_yX3_strengthOf, co_yX3_strengthOf, pm_yX3_strengthOf⟩
theorem mv_yX3_strengthOf : MVp yX3_strengthOf := ⟨(inT_4 42 rfl rfl), (inT_4 43 rfl rfl)⟩
theorem in_yX8_insert : Cond.initialized yX8_insert.cls ∈ UU := (inT_1 8 rfl rfl)
theorem co_yX8_insert : Cond.code yX8_insert cX8_insert 4 none ∈ UU := (inT_4 28 rfl rfl)
theorem pm_yX8_insert : yX8_insert.cls ≠ "java/lang/invoke/MethodHandle" ∧ yX8_insert.cls ≠ "java/lang/invoke/VarHandle" ∧ (parseMethodDescriptor yX8_insert.desc).map (fun d => d.parameters.length) = some 3 := by decide +kernel
theorem ml_RX5_83 : MLp RX5 83 yX8_insert cX8_insert 4 none 3 := ⟨(inT_4 237 rfl rfl), in_yX8_insert, co_yX8_insert, pm_yX8_insert⟩
theorem mv_yX8_insert : MVp yX8_insert := ⟨(inT_4 26 rfl rfl), (inT_4 27 rfl rfl)⟩
theorem ml_RX5_96 : MLp RX5 96 yX3_haltAt cX3_haltAt 2 (some .int) 1 := ⟨(inT_5 6 rfl rfl), in_yX3_haltAt, co_yX3_haltAt, pm_yX3_haltAt⟩
theorem ml_RX5_99 : MLp RX5 99 yX3_haltAdds cX3_haltAdds 2 (some .int) 1 := ⟨(inT_5 7 rfl rfl), in_yX3_haltAdds, co_yX3_haltAdds, pm_yX3_haltAdds⟩
theorem ml_RX6_31 : MLp RX6 31 yX7_open cX7_open 4 none 3 := ⟨(inT_5 159 rfl rfl), in_yX7_open, co_yX7_open, pm_yX7_open⟩
theorem ml_RX6_37 : MLp RX6 37 yX6_clear cX6_clear 1 none 0 := ⟨(inT_5 160 rfl rfl), in_yX6_clear, co_yX6_clear, pm_yX6_clear⟩
theorem ml_RX6_40 : MLp RX6 40 yX7_advance cX7_advance 3 none 0 := ⟨(inT_5 161 rfl rfl), in_yX7_advance, co_yX7_advance, pm_yX7_advance⟩
theorem ml_RX6_43 : MLp RX6 43 yX7_isAtEnd cX7_isAtEnd 1 (some .boolean) 0 := ⟨(inT_5 162 rfl rfl), in_yX7_isAtEnd, co_yX7_isAtEnd, pm_yX7_isAtEnd⟩
theorem ml_RX6_47 : MLp RX6 47 yX7_keyword cX7_keyword 2 (some .int) 0 := ⟨(inT_5 163 rfl rfl), in_yX7_keyword, co_yX7_keyword, pm_yX7_keyword⟩
theorem in_yX6_readRow : Cond.initialized yX6_readRow.cls ∈ UU := (inT_1 6 rfl rfl)
theorem co_yX6_readRow : Cond.code yX6_readRow cX6_readRow 4 (some .boolean) ∈ UU := (inT_5 167 rfl rfl)
theorem pm_yX6_readRow : yX6_readRow.cls ≠ "java/lang/invoke/MethodHandle" ∧ yX6_readRow.cls ≠ "java/lang/invoke/VarHandle" ∧ (parseMethodDescriptor yX6_readRow.desc).map (fun d => d.parameters.length) = some 2 := by decide +kernel
theorem ml_RX6_51 : MLp RX6 51 yX6_readRow cX6_readRow 4 (some .boolean) 2 := ⟨(inT_5 164 rfl rfl), in_yX6_readRow, co_yX6_readRow, pm_yX6_readRow⟩
theorem mv_yX6_readRow : MVp yX6_readRow := ⟨(inT_5 166 rfl rfl), (inP_3 7 rfl rfl rfl)⟩
theorem ml_RX6_55 : MLp RX6 55 yX7_answer cX7_answer 2 (some .int) 1 := ⟨(inT_5 171 rfl rfl), in_yX7_answer, co_yX7_answer, pm_yX7_answer⟩
theorem ml_RX6_59 : MLp RX6 59 yX7_failHere cX7_failHere 2 (some .boolean) 1 := ⟨(inT_5 168 rfl rfl), in_yX7_failHere, co_yX7_failHere, pm_yX7_failHere⟩
theorem ml_RX6_63 : MLp RX6 63 yX7_nextNumber cX7_nextNumber 3 (some .boolean) 2 := ⟨(inT_5 169 rfl rfl), in_yX7_nextNumber, co_yX7_nextNumber, pm_yX7_nextNumber⟩
theorem ml_RX6_70 : MLp RX6 70 yX7_nextCloses cX7_nextCloses 1 (some .boolean) 0 := ⟨(inT_5 170 rfl rfl), in_yX7_nextCloses, co_yX7_nextCloses, pm_yX7_nextCloses⟩
theorem in_yX7_readRun : Cond.initialized yX7_readRun.cls ∈ UU := (inT_1 3 rfl rfl)
theorem co_yX7_readRun : Cond.code yX7_readRun cX7_readRun 3 none ∈ UU := (inT_3 100 rfl rfl)
theorem pm_yX7_readRun : yX7_readRun.cls ≠ "java/lang/invoke/MethodHandle" ∧ yX7_readRun.cls ≠ "java/lang/invoke/VarHandle" ∧ (parseMethodDescriptor yX7_readRun.desc).map (fun d => d.parameters.length) = some 0 := by decide +kernel
theorem ml_RX7_50 : MLp RX7 50 yX7_readRun cX7_readRun 3 none 0 := ⟨(inT_3 97 rfl rfl), in_yX7_readRun, co_yX7_readRun, pm_yX7_readRun⟩
theorem mv_yX7_readRun : MVp yX7_readRun := ⟨(inT_3 99 rfl rfl), (inP_1 2 rfl rfl rfl)⟩
theorem in_yX7_fail : Cond.initialized yX7_fail.cls ∈ UU := (inT_1 3 rfl rfl)
theorem co_yX7_fail : Cond.code yX7_fail cX7_fail 3 (some .boolean) ∈ UU := (inT_3 110 rfl rfl)
theorem pm_yX7_fail : yX7_fail.cls ≠ "java/lang/invoke/MethodHandle" ∧ yX7_fail.cls ≠ "java/lang/invoke/VarHandle" ∧ (parseMethodDescriptor yX7_fail.desc).map (fun d => d.parameters.length) = some 2 := by decide +kernel
theorem ml_RX7_64 : MLp RX7 64 yX7_fail cX7_fail 3 (some .boolean) 2 := ⟨(inT_3 107 rfl rfl), in_yX7_fail, co_yX7_fail, pm_yX7_fail⟩
theorem mv_yX7_fail : MVp yX7_fail := ⟨(inT_3 108 rfl rfl), (inT_3 109 rfl rfl)⟩
theorem in_yX7_isKeyword : Cond.initialized yX7_isKeyword.cls ∈ UU := (inT_1 3 rfl rfl)
theorem co_yX7_isKeyword : Cond.code yX7_isKeyword cX7_isKeyword 4 (some .boolean) ∈ UU := (inT_3 118 rfl rfl)
theorem pm_yX7_isKeyword : yX7_isKeyword.cls ≠ "java/lang/invoke/MethodHandle" ∧ yX7_isKeyword.cls ≠ "java/lang/invoke/VarHandle" ∧ (parseMethodDescriptor yX7_isKeyword.desc).map (fun d => d.parameters.length) = some 1 := by decide +kernel
theorem ml_RX7_68 : MLp RX7 68 yX7_isKeyword cX7_isKeyword 4 (some .boolean) 1 := ⟨(inT_3 115 rfl rfl), in_yX7_isKeyword, co_yX7_isKeyword, pm_yX7_isKeyword⟩
theorem mv_yX7_isKeyword : MVp yX7_isKeyword := ⟨(inT_3 117 rfl rfl), (inP_1 3 rfl rfl rfl)⟩
theorem ml_RX7_79 : MLp RX7 79 yX7_failHere cX7_failHere 2 (some .boolean) 1 := ⟨(inT_3 176 rfl rfl), in_yX7_failHere, co_yX7_failHere, pm_yX7_failHere⟩
theorem ml_RX7_82 : MLp RX7 82 yX7_advance cX7_advance 3 none 0 := ⟨(inT_3 181 rfl rfl), in_yX7_advance, co_yX7_advance, pm_yX7_advance⟩
theorem ml_RX7_85 : MLp RX7 85 yX7_isNumber cX7_isNumber 3 (some .boolean) 2 := ⟨(inT_3 182 rfl rfl), in_yX7_isNumber, co_yX7_isNumber, pm_yX7_isNumber⟩
theorem ml_RX7_88 : MLp RX7 88 yX7_keyword cX7_keyword 2 (some .int) 0 := ⟨(inT_3 199 rfl rfl), in_yX7_keyword, co_yX7_keyword, pm_yX7_keyword⟩
theorem ml_RX7_92 : MLp RX7 92 yX7_isName cX7_isName 1 (some .boolean) 0 := ⟨(inT_3 231 rfl rfl), in_yX7_isName, co_yX7_isName, pm_yX7_isName⟩
theorem ml_RX8_103 : MLp RX8 103 yX8_begin cX8_begin 3 none 1 := ⟨(inT_4 173 rfl rfl), in_yX8_begin, co_yX8_begin, pm_yX8_begin⟩
theorem ml_RX8_107 : MLp RX8 107 yX8_takeOn cX8_takeOn 3 none 1 := ⟨(inT_4 174 rfl rfl), in_yX8_takeOn, co_yX8_takeOn, pm_yX8_takeOn⟩
theorem ml_RX8_110 : MLp RX8 110 yX3_gradeOf cX3_gradeOf 2 (some .int) 1 := ⟨(inT_4 70 rfl rfl), in_yX3_gradeOf, co_yX3_gradeOf, pm_yX3_gradeOf⟩
theorem ml_RX8_119 : MLp RX8 119 yX3_dragOf cX3_dragOf 3 (some .int) 2 := ⟨(inT_4 74 rfl rfl), in_yX3_dragOf, co_yX3_dragOf, pm_yX3_dragOf⟩
theorem ml_RX8_122 : MLp RX8 122 yX8_measure cX8_measure 5 (some .int) 1 := ⟨(inT_6 140 rfl rfl), in_yX8_measure, co_yX8_measure, pm_yX8_measure⟩
theorem ml_RX8_54 : MLp RX8 54 yX3_haltAt cX3_haltAt 2 (some .int) 1 := ⟨(inT_4 24 rfl rfl), in_yX3_haltAt, co_yX3_haltAt, pm_yX3_haltAt⟩
theorem ml_RX8_64 : MLp RX8 64 yX8_insert cX8_insert 4 none 3 := ⟨(inT_4 25 rfl rfl), in_yX8_insert, co_yX8_insert, pm_yX8_insert⟩
theorem in_yX8_openPlace : Cond.initialized yX8_openPlace.cls ∈ UU := (inT_1 8 rfl rfl)
theorem co_yX8_openPlace : Cond.code yX8_openPlace cX8_openPlace 4 none ∈ UU := (inT_4 32 rfl rfl)
theorem pm_yX8_openPlace : yX8_openPlace.cls ≠ "java/lang/invoke/MethodHandle" ∧ yX8_openPlace.cls ≠ "java/lang/invoke/VarHandle" ∧ (parseMethodDescriptor yX8_openPlace.desc).map (fun d => d.parameters.length) = some 2 := by decide +kernel
theorem ml_RX8_74 : MLp RX8 74 yX8_openPlace cX8_openPlace 4 none 2 := ⟨(inT_4 29 rfl rfl), in_yX8_openPlace, co_yX8_openPlace, pm_yX8_openPlace⟩
theorem mv_yX8_openPlace : MVp yX8_openPlace := ⟨(inT_4 31 rfl rfl), (inP_2 1 rfl rfl rfl)⟩
theorem ml_RX8_78 : MLp RX8 78 yX3_longOf cX3_longOf 2 (some .int) 1 := ⟨(inT_4 33 rfl rfl), in_yX3_longOf, co_yX3_longOf, pm_yX3_longOf⟩
theorem ml_RX8_81 : MLp RX8 81 yX3_weightOf cX3_weightOf 2 (some .int) 1 := ⟨(inT_4 37 rfl rfl), in_yX3_weightOf, co_yX3_weightOf, pm_yX3_weightOf⟩
theorem ml_RX8_84 : MLp RX8 84 yX3_strengthOf cX3_strengthOf 2 (some .int) 1 := ⟨(inT_4 41 rfl rfl), in_yX3_strengthOf, co_yX3_strengthOf, pm_yX3_strengthOf⟩
theorem ml_RX8_96 : MLp RX8 96 yX3_haltAdds cX3_haltAdds 2 (some .int) 1 := ⟨(inT_4 128 rfl rfl), in_yX3_haltAdds, co_yX3_haltAdds, pm_yX3_haltAdds⟩
theorem ml_RX8_99 : MLp RX8 99 yX8_arrive cX8_arrive 2 (some .int) 1 := ⟨(inT_4 124 rfl rfl), in_yX8_arrive, co_yX8_arrive, pm_yX8_arrive⟩
theorem in_yX3_copyFrom : Cond.initialized yX3_copyFrom.cls ∈ UU := (inT_1 5 rfl rfl)
theorem co_yX3_copyFrom : Cond.code yX3_copyFrom cX3_copyFrom 2 none ∈ UU := (inT_6 28 rfl rfl)
theorem pm_yX3_copyFrom : yX3_copyFrom.cls ≠ "java/lang/invoke/MethodHandle" ∧ yX3_copyFrom.cls ≠ "java/lang/invoke/VarHandle" ∧ (parseMethodDescriptor yX3_copyFrom.desc).map (fun d => d.parameters.length) = some 1 := by decide +kernel
theorem ml_RX9_30 : MLp RX9 30 yX3_copyFrom cX3_copyFrom 2 none 1 := ⟨(inT_6 25 rfl rfl), in_yX3_copyFrom, co_yX3_copyFrom, pm_yX3_copyFrom⟩
theorem mv_yX3_copyFrom : MVp yX3_copyFrom := ⟨(inT_6 26 rfl rfl), (inT_6 27 rfl rfl)⟩
theorem in_yX6_copyFrom : Cond.initialized yX6_copyFrom.cls ∈ UU := (inT_1 6 rfl rfl)
theorem co_yX6_copyFrom : Cond.code yX6_copyFrom cX6_copyFrom 2 none ∈ UU := (inT_6 33 rfl rfl)
theorem pm_yX6_copyFrom : yX6_copyFrom.cls ≠ "java/lang/invoke/MethodHandle" ∧ yX6_copyFrom.cls ≠ "java/lang/invoke/VarHandle" ∧ (parseMethodDescriptor yX6_copyFrom.desc).map (fun d => d.parameters.length) = some 1 := by decide +kernel
theorem ml_RX9_34 : MLp RX9 34 yX6_copyFrom cX6_copyFrom 2 none 1 := ⟨(inT_6 30 rfl rfl), in_yX6_copyFrom, co_yX6_copyFrom, pm_yX6_copyFrom⟩
theorem mv_yX6_copyFrom : MVp yX6_copyFrom := ⟨(inT_6 31 rfl rfl), (inT_6 32 rfl rfl)⟩
theorem ml_RX9_37 : MLp RX9 37 yX10_copyFrom cX10_copyFrom 2 none 1 := ⟨(inT_6 35 rfl rfl), in_yX10_copyFrom, co_yX10_copyFrom, pm_yX10_copyFrom⟩
