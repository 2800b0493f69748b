theorem ckg_0 : (List.range' 0 10).all ckM = true := by decide +kernel
theorem ckg_1 : (List.range' 10 12).all ckM = true := by decide +kernel
theorem ckg_2 : (List.range' 22 8).all ckM = true := by decide +kernel
theorem ckg_3 : (List.range' 30 9).all ckM = true := by decide +kernel
theorem ckg_4 : (List.range' 39 19).all ckM = true := by decide +kernel
theorem ckg_5 : (List.range' 58 13).all ckM = true := by decide +kernel
theorem ckg_6 : (List.range' 71 8).all ckM = true := by decide +kernel
theorem ckg_7 : (List.range' 79 7).all ckM = true := by decide +kernel
theorem ckg_8 : (List.range' 86 11).all ckM = true := by decide +kernel
theorem ckg_9 : (List.range' 97 10).all ckM = true := by decide +kernel
theorem ckg_10 : (List.range' 107 7).all ckM = true := by decide +kernel
theorem ckg_11 : (List.range' 114 8).all ckM = true := by decide +kernel
theorem ckg_12 : (List.range' 122 10).all ckM = true := by decide +kernel
theorem ckg_13 : (List.range' 132 17).all ckM = true := by decide +kernel
theorem ckg_14 : (List.range' 149 8).all ckM = true := by decide +kernel
theorem ckg_15 : (List.range' 157 13).all ckM = true := by decide +kernel
theorem ckg_16 : (List.range' 170 11).all ckM = true := by decide +kernel
theorem ckg_17 : (List.range' 181 9).all ckM = true := by decide +kernel
theorem ckg_18 : (List.range' 190 6).all ckM = true := by decide +kernel
theorem ckg_19 : (List.range' 196 5).all ckM = true := by decide +kernel
theorem ckg_20 : (List.range' 201 3).all ckM = true := by decide +kernel
theorem ckg_21 : (List.range' 204 6).all ckM = true := by decide +kernel
theorem ckg_22 : (List.range' 210 8).all ckM = true := by decide +kernel
theorem ckg_23 : (List.range' 218 10).all ckM = true := by decide +kernel
theorem ckg_24 : (List.range' 228 6).all ckM = true := by decide +kernel
theorem ckg_25 : (List.range' 234 3).all ckM = true := by decide +kernel
theorem ckg_26 : (List.range' 237 4).all ckM = true := by decide +kernel
theorem ckg_27 : (List.range' 241 11).all ckM = true := by decide +kernel
theorem ckg_28 : (List.range' 252 7).all ckM = true := by decide +kernel
theorem ckl_0 : it_L_law_0.all (ck code 20 false) = true := by decide +kernel
theorem ckl_1 : it_L_law_1.all (ck code 20 false) = true := by decide +kernel
theorem ckl_2 : it_L_law_2.all (ck code 20 false) = true := by decide +kernel
theorem ckl_3 : it_L_law_3.all (ck code 20 false) = true := by decide +kernel
theorem ckl_4 : it_L_law_4.all (ck code 20 false) = true := by decide +kernel
theorem ckl_5 : it_L_law_5.all (ck code 20 false) = true := by decide +kernel
theorem ckl_6 : it_L_law_6.all (ck code 20 false) = true := by decide +kernel
theorem ckl_7 : it_L_law_7.all (ck code 20 false) = true := by decide +kernel
theorem ckl_8 : it_L_law_8.all (ck code 20 false) = true := by decide +kernel
theorem ckl_9 : it_L_law_9.all (ck code 20 false) = true := by decide +kernel
theorem ckl_10 : it_L_law_10.all (ck code 20 false) = true := by decide +kernel
theorem ckl_11 : it_L_law_11.all (ck code 20 false) = true := by decide +kernel
theorem ckl_12 : it_L_law_12.all (ck code 20 false) = true := by decide +kernel
theorem ck_law : ckM 259 = true := by
  show (it_L_law).all (ck code 20 (decide (("law" : String) = "<init>"))) = true
  simp only [it_L_law, List.all_append, Bool.and_eq_true]
  exact ⟨⟨⟨⟨⟨⟨⟨⟨⟨⟨⟨⟨ckl_0, ckl_1⟩, ckl_2⟩, ckl_3⟩, ckl_4⟩, ckl_5⟩, ckl_6⟩, ckl_7⟩, ckl_8⟩, ckl_9⟩, ckl_10⟩, ckl_11⟩, ckl_12⟩
theorem ck_all : ∀ y, y < 260 → ckM y = true := by
  intro y hy
  by_cases h0 : y < 10
  · exact List.all_eq_true.mp ckg_0 y (List.mem_range'_1.mpr ⟨by omega, by omega⟩)
  by_cases h1 : y < 22
  · exact List.all_eq_true.mp ckg_1 y (List.mem_range'_1.mpr ⟨by omega, by omega⟩)
  by_cases h2 : y < 30
  · exact List.all_eq_true.mp ckg_2 y (List.mem_range'_1.mpr ⟨by omega, by omega⟩)
  by_cases h3 : y < 39
  · exact List.all_eq_true.mp ckg_3 y (List.mem_range'_1.mpr ⟨by omega, by omega⟩)
  by_cases h4 : y < 58
  · exact List.all_eq_true.mp ckg_4 y (List.mem_range'_1.mpr ⟨by omega, by omega⟩)
  by_cases h5 : y < 71
  · exact List.all_eq_true.mp ckg_5 y (List.mem_range'_1.mpr ⟨by omega, by omega⟩)
  by_cases h6 : y < 79
  · exact List.all_eq_true.mp ckg_6 y (List.mem_range'_1.mpr ⟨by omega, by omega⟩)
  by_cases h7 : y < 86
  · exact List.all_eq_true.mp ckg_7 y (List.mem_range'_1.mpr ⟨by omega, by omega⟩)
  by_cases h8 : y < 97
  · exact List.all_eq_true.mp ckg_8 y (List.mem_range'_1.mpr ⟨by omega, by omega⟩)
  by_cases h9 : y < 107
  · exact List.all_eq_true.mp ckg_9 y (List.mem_range'_1.mpr ⟨by omega, by omega⟩)
  by_cases h10 : y < 114
  · exact List.all_eq_true.mp ckg_10 y (List.mem_range'_1.mpr ⟨by omega, by omega⟩)
  by_cases h11 : y < 122
  · exact List.all_eq_true.mp ckg_11 y (List.mem_range'_1.mpr ⟨by omega, by omega⟩)
  by_cases h12 : y < 132
  · exact List.all_eq_true.mp ckg_12 y (List.mem_range'_1.mpr ⟨by omega, by omega⟩)
  by_cases h13 : y < 149
  · exact List.all_eq_true.mp ckg_13 y (List.mem_range'_1.mpr ⟨by omega, by omega⟩)
  by_cases h14 : y < 157
  · exact List.all_eq_true.mp ckg_14 y (List.mem_range'_1.mpr ⟨by omega, by omega⟩)
  by_cases h15 : y < 170
  · exact List.all_eq_true.mp ckg_15 y (List.mem_range'_1.mpr ⟨by omega, by omega⟩)
  by_cases h16 : y < 181
  · exact List.all_eq_true.mp ckg_16 y (List.mem_range'_1.mpr ⟨by omega, by omega⟩)
  by_cases h17 : y < 190
  · exact List.all_eq_true.mp ckg_17 y (List.mem_range'_1.mpr ⟨by omega, by omega⟩)
  by_cases h18 : y < 196
  · exact List.all_eq_true.mp ckg_18 y (List.mem_range'_1.mpr ⟨by omega, by omega⟩)
  by_cases h19 : y < 201
  · exact List.all_eq_true.mp ckg_19 y (List.mem_range'_1.mpr ⟨by omega, by omega⟩)
  by_cases h20 : y < 204
  · exact List.all_eq_true.mp ckg_20 y (List.mem_range'_1.mpr ⟨by omega, by omega⟩)
  by_cases h21 : y < 210
  · exact List.all_eq_true.mp ckg_21 y (List.mem_range'_1.mpr ⟨by omega, by omega⟩)
  by_cases h22 : y < 218
  · exact List.all_eq_true.mp ckg_22 y (List.mem_range'_1.mpr ⟨by omega, by omega⟩)
  by_cases h23 : y < 228
  · exact List.all_eq_true.mp ckg_23 y (List.mem_range'_1.mpr ⟨by omega, by omega⟩)
  by_cases h24 : y < 234
  · exact List.all_eq_true.mp ckg_24 y (List.mem_range'_1.mpr ⟨by omega, by omega⟩)
  by_cases h25 : y < 237
  · exact List.all_eq_true.mp ckg_25 y (List.mem_range'_1.mpr ⟨by omega, by omega⟩)
  by_cases h26 : y < 241
  · exact List.all_eq_true.mp ckg_26 y (List.mem_range'_1.mpr ⟨by omega, by omega⟩)
  by_cases h27 : y < 252
  · exact List.all_eq_true.mp ckg_27 y (List.mem_range'_1.mpr ⟨by omega, by omega⟩)
  by_cases h28 : y < 259
  · exact List.all_eq_true.mp ckg_28 y (List.mem_range'_1.mpr ⟨by omega, by omega⟩)
  have : y = 259 := by omega
  subst this
  exact ck_law
