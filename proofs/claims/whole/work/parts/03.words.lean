theorem tb_1 {w : Cond} (h : w ∈ tables_1_1) (g : goodWord w = true) : w ∈ TB := List.mem_filter.mpr ⟨List.mem_append_right _ (show w ∈ tables_1 from List.mem_append_left _ h), g⟩
theorem tb_2 {w : Cond} (h : w ∈ tables_1_2) (g : goodWord w = true) : w ∈ TB := List.mem_filter.mpr ⟨List.mem_append_right _ (show w ∈ tables_1 from List.mem_append_right _ (List.mem_append_left _ h)), g⟩
theorem tb_3 {w : Cond} (h : w ∈ tables_1_3) (g : goodWord w = true) : w ∈ TB := List.mem_filter.mpr ⟨List.mem_append_right _ (show w ∈ tables_1 from List.mem_append_right _ (List.mem_append_right _ (List.mem_append_left _ h))), g⟩
theorem tb_4 {w : Cond} (h : w ∈ tables_1_4) (g : goodWord w = true) : w ∈ TB := List.mem_filter.mpr ⟨List.mem_append_right _ (show w ∈ tables_1 from List.mem_append_right _ (List.mem_append_right _ (List.mem_append_right _ (List.mem_append_left _ h)))), g⟩
theorem tb_5 {w : Cond} (h : w ∈ tables_1_5) (g : goodWord w = true) : w ∈ TB := List.mem_filter.mpr ⟨List.mem_append_right _ (show w ∈ tables_1 from List.mem_append_right _ (List.mem_append_right _ (List.mem_append_right _ (List.mem_append_right _ (List.mem_append_left _ h))))), g⟩
theorem tb_6 {w : Cond} (h : w ∈ tables_1_6) (g : goodWord w = true) : w ∈ TB := List.mem_filter.mpr ⟨List.mem_append_right _ (show w ∈ tables_1 from List.mem_append_right _ (List.mem_append_right _ (List.mem_append_right _ (List.mem_append_right _ (List.mem_append_right _ (List.mem_append_left _ h)))))), g⟩
theorem tb_7 {w : Cond} (h : w ∈ tables_1_7) (g : goodWord w = true) : w ∈ TB := List.mem_filter.mpr ⟨List.mem_append_right _ (show w ∈ tables_1 from List.mem_append_right _ (List.mem_append_right _ (List.mem_append_right _ (List.mem_append_right _ (List.mem_append_right _ (List.mem_append_right _ (List.mem_append_left _ h))))))), g⟩
theorem tb_8 {w : Cond} (h : w ∈ tables_1_8) (g : goodWord w = true) : w ∈ TB := List.mem_filter.mpr ⟨List.mem_append_right _ (show w ∈ tables_1 from List.mem_append_right _ (List.mem_append_right _ (List.mem_append_right _ (List.mem_append_right _ (List.mem_append_right _ (List.mem_append_right _ (List.mem_append_right _ (h)))))))), g⟩
theorem tbT {w : Cond} (h : w ∈ tables_1) (g : goodWord w = true) : w ∈ TB := List.mem_filter.mpr ⟨List.mem_append_right _ h, g⟩
theorem tbS {w : Cond} (h : w ∈ k2_sels lw_privs) (g : goodWord w = true) : w ∈ TB := List.mem_filter.mpr ⟨List.mem_append_left _ h, g⟩
theorem uw_X0 : (u_ws RX0 TX0 5).all (fun w => decide (w ∈ lw_tbl) && goodWord w) = true := by decide +kernel
theorem co_X0 : CO 0 RX0 TX0 5 := ⟨rfl, fun w h => List.mem_filter.mpr (by have q := List.all_eq_true.mp uw_X0 w h; simp only [Bool.and_eq_true, decide_eq_true_eq] at q; exact q), tyX0_ok, nmX0, by decide +kernel⟩
theorem uw_X1 : (u_ws RX1 TX1 4).all (fun w => decide (w ∈ lw_tbl) && goodWord w) = true := by decide +kernel
theorem co_X1 : CO 1 RX1 TX1 4 := ⟨rfl, fun w h => List.mem_filter.mpr (by have q := List.all_eq_true.mp uw_X1 w h; simp only [Bool.and_eq_true, decide_eq_true_eq] at q; exact q), tyX1_ok, nmX1, by decide +kernel⟩
theorem uw_X2 : (u_ws RX2 TX2 4).all (fun w => decide (w ∈ lw_tbl) && goodWord w) = true := by decide +kernel
theorem co_X2 : CO 2 RX2 TX2 4 := ⟨rfl, fun w h => List.mem_filter.mpr (by have q := List.all_eq_true.mp uw_X2 w h; simp only [Bool.and_eq_true, decide_eq_true_eq] at q; exact q), tyX2_ok, nmX2, by decide +kernel⟩
theorem uw_X3 : (u_ws RX3 TX3 5).all (fun w => decide (w ∈ lw_tbl) && goodWord w) = true := by decide +kernel
theorem co_X3 : CO 3 RX3 TX3 5 := ⟨rfl, fun w h => List.mem_filter.mpr (by have q := List.all_eq_true.mp uw_X3 w h; simp only [Bool.and_eq_true, decide_eq_true_eq] at q; exact q), tyX3_ok, nmX3, by decide +kernel⟩
theorem uw_X4 : (u_ws RX4 TX4 12).all (fun w => decide (w ∈ lw_tbl) && goodWord w) = true := by decide +kernel
theorem co_X4 : CO 4 RX4 TX4 12 := ⟨rfl, fun w h => List.mem_filter.mpr (by have q := List.all_eq_true.mp uw_X4 w h; simp only [Bool.and_eq_true, decide_eq_true_eq] at q; exact q), tyX4_ok, nmX4, by decide +kernel⟩
theorem uw_X5 : (u_ws RX5 TX5 9).all (fun w => decide (w ∈ lw_tbl) && goodWord w) = true := by decide +kernel
theorem co_X5 : CO 5 RX5 TX5 9 := ⟨rfl, fun w h => List.mem_filter.mpr (by have q := List.all_eq_true.mp uw_X5 w h; simp only [Bool.and_eq_true, decide_eq_true_eq] at q; exact q), tyX5_ok, nmX5, by decide +kernel⟩
theorem uw_X6 : (u_ws RX6 TX6 4).all (fun w => decide (w ∈ lw_tbl) && goodWord w) = true := by decide +kernel
theorem co_X6 : CO 6 RX6 TX6 4 := ⟨rfl, fun w h => List.mem_filter.mpr (by have q := List.all_eq_true.mp uw_X6 w h; simp only [Bool.and_eq_true, decide_eq_true_eq] at q; exact q), tyX6_ok, nmX6, by decide +kernel⟩
theorem uw_X7 : (u_ws RX7 TX7 8).all (fun w => decide (w ∈ lw_tbl) && goodWord w) = true := by decide +kernel
theorem co_X7 : CO 7 RX7 TX7 8 := ⟨rfl, fun w h => List.mem_filter.mpr (by have q := List.all_eq_true.mp uw_X7 w h; simp only [Bool.and_eq_true, decide_eq_true_eq] at q; exact q), tyX7_ok, nmX7, by decide +kernel⟩
theorem uw_X8 : (u_ws RX8 TX8 12).all (fun w => decide (w ∈ lw_tbl) && goodWord w) = true := by decide +kernel
theorem co_X8 : CO 8 RX8 TX8 12 := ⟨rfl, fun w h => List.mem_filter.mpr (by have q := List.all_eq_true.mp uw_X8 w h; simp only [Bool.and_eq_true, decide_eq_true_eq] at q; exact q), tyX8_ok, nmX8, by decide +kernel⟩
theorem uw_X9 : (u_ws RX9 TX9 6).all (fun w => decide (w ∈ lw_tbl) && goodWord w) = true := by decide +kernel
theorem co_X9 : CO 9 RX9 TX9 6 := ⟨rfl, fun w h => List.mem_filter.mpr (by have q := List.all_eq_true.mp uw_X9 w h; simp only [Bool.and_eq_true, decide_eq_true_eq] at q; exact q), tyX9_ok, nmX9, by decide +kernel⟩
theorem uw_X10 : (u_ws RX10 TX10 84).all (fun w => decide (w ∈ lw_tbl) && goodWord w) = true := by decide +kernel
theorem co_X10 : CO 10 RX10 TX10 84 := ⟨rfl, fun w h => List.mem_filter.mpr (by have q := List.all_eq_true.mp uw_X10 w h; simp only [Bool.and_eq_true, decide_eq_true_eq] at q; exact q), tyX10_ok, nmX10, by decide +kernel⟩
theorem wd_374 : Cond.fieldLink RX9 10 "FarTown" "now" "LFarTown$Told;" ∈ TB := tb_2 (List.mem_of_getElem? (i := 134) rfl) rfl
theorem fl_RX9_10 : Fl RX9 10 9 0 1000 2 true := ⟨RX9, 6, co_X9, by decide, wd_374, rfl, rfl, rfl⟩
theorem wd_375 : Cond.fieldLink RX9 16 "FarTown" "images" "[LFarTown$Told;" ∈ TB := tb_2 (List.mem_of_getElem? (i := 135) rfl) rfl
theorem fl_RX9_16 : Fl RX9 16 9 1 1001 2 true := ⟨RX9, 6, co_X9, by decide, wd_375, rfl, rfl, rfl⟩
theorem wd_376 : Cond.fieldLink RX9 23 "FarTown" "reader" "LFarTown$Reader;" ∈ TB := tb_2 (List.mem_of_getElem? (i := 136) rfl) rfl
theorem fl_RX9_23 : Fl RX9 23 9 2 1002 2 true := ⟨RX9, 6, co_X9, by decide, wd_376, rfl, rfl, rfl⟩
theorem wd_377 : Cond.fieldLink RX9 30 "FarTown" "scene" "LFarTown$Scene;" ∈ TB := tb_2 (List.mem_of_getElem? (i := 137) rfl) rfl
theorem fl_RX9_30 : Fl RX9 30 9 3 1003 2 true := ⟨RX9, 6, co_X9, by decide, wd_377, rfl, rfl, rfl⟩
theorem wd_378 : Cond.fieldLink RX9 39 "FarTown" "court" "LFarTown$Court;" ∈ TB := tb_2 (List.mem_of_getElem? (i := 138) rfl) rfl
theorem fl_RX9_39 : Fl RX9 39 9 4 1004 2 true := ⟨RX9, 6, co_X9, by decide, wd_378, rfl, rfl, rfl⟩
theorem wd_379 : Cond.fieldLink RX9 46 "FarTown" "planner" "LFarTown$Planner;" ∈ TB := tb_2 (List.mem_of_getElem? (i := 139) rfl) rfl
theorem fl_RX9_46 : Fl RX9 46 9 5 1005 2 true := ⟨RX9, 6, co_X9, by decide, wd_379, rfl, rfl, rfl⟩
theorem wd_171 : Cond.fieldLink RX9 50 "FarTown$Told" "length" "I" ∈ TB := tb_1 (List.mem_of_getElem? (i := 171) rfl) rfl
theorem fl_RX9_50 : Fl RX9 50 7 1 801 0 false := ⟨RX7, 8, co_X7, by decide, wd_171, rfl, rfl, rfl⟩
theorem wd_177 : Cond.fieldLink RX9 62 "FarTown$Told" "towns" "I" ∈ TB := tb_1 (List.mem_of_getElem? (i := 177) rfl) rfl
theorem fl_RX9_62 : Fl RX9 62 7 4 804 0 false := ⟨RX7, 8, co_X7, by decide, wd_177, rfl, rfl, rfl⟩
theorem wd_170 : Cond.fieldLink RX9 73 "FarTown$Told" "tape" "[B" ∈ TB := tb_1 (List.mem_of_getElem? (i := 170) rfl) rfl
theorem fl_RX9_73 : Fl RX9 73 7 0 800 2 true := ⟨RX7, 8, co_X7, by decide, wd_170, rfl, rfl, rfl⟩
theorem wd_224 : Cond.fieldLink RX9 81 "FarTown$Reader" "fault" "I" ∈ TB := tb_1 (List.mem_of_getElem? (i := 224) rfl) rfl
theorem fl_RX9_81 : Fl RX9 81 4 10 510 0 false := ⟨RX4, 12, co_X4, by decide, wd_224, rfl, rfl, rfl⟩
theorem wd_226 : Cond.fieldLink RX9 84 "FarTown$Reader" "place" "I" ∈ TB := tb_1 (List.mem_of_getElem? (i := 226) rfl) rfl
theorem fl_RX9_84 : Fl RX9 84 4 11 511 0 false := ⟨RX4, 12, co_X4, by decide, wd_226, rfl, rfl, rfl⟩
theorem wd_212 : Cond.fieldLink RX9 91 "FarTown$Reader" "town" "LFarTown$Town;" ∈ TB := tb_1 (List.mem_of_getElem? (i := 212) rfl) rfl
theorem fl_RX9_91 : Fl RX9 91 4 0 500 2 true := ⟨RX4, 12, co_X4, by decide, wd_212, rfl, rfl, rfl⟩
theorem wd_179 : Cond.fieldLink RX9 101 "FarTown$Told" "laws" "I" ∈ TB := tb_1 (List.mem_of_getElem? (i := 179) rfl) rfl
theorem fl_RX9_101 : Fl RX9 101 7 5 805 0 false := ⟨RX7, 8, co_X7, by decide, wd_179, rfl, rfl, rfl⟩
theorem wd_214 : Cond.fieldLink RX9 111 "FarTown$Reader" "law" "LFarTown$Law;" ∈ TB := tb_1 (List.mem_of_getElem? (i := 214) rfl) rfl
theorem fl_RX9_111 : Fl RX9 111 4 1 501 2 true := ⟨RX4, 12, co_X4, by decide, wd_214, rfl, rfl, rfl⟩
theorem wd_174 : Cond.fieldLink RX9 120 "FarTown$Told" "fault" "I" ∈ TB := tb_1 (List.mem_of_getElem? (i := 174) rfl) rfl
theorem fl_RX9_120 : Fl RX9 120 7 2 802 0 false := ⟨RX7, 8, co_X7, by decide, wd_174, rfl, rfl, rfl⟩
theorem wd_176 : Cond.fieldLink RX9 121 "FarTown$Told" "place" "I" ∈ TB := tb_1 (List.mem_of_getElem? (i := 176) rfl) rfl
theorem fl_RX9_121 : Fl RX9 121 7 3 803 0 false := ⟨RX7, 8, co_X7, by decide, wd_176, rfl, rfl, rfl⟩
theorem wd_74 : Cond.fieldLink RX9 132 "FarTown$Town" "width" "I" ∈ TB := tb_1 (List.mem_of_getElem? (i := 74) rfl) rfl
theorem fl_RX9_132 : Fl RX9 132 8 0 900 0 false := ⟨RX8, 12, co_X8, by decide, wd_74, rfl, rfl, rfl⟩
theorem wd_77 : Cond.fieldLink RX9 135 "FarTown$Town" "height" "I" ∈ TB := tb_1 (List.mem_of_getElem? (i := 77) rfl) rfl
theorem fl_RX9_135 : Fl RX9 135 8 1 901 0 false := ⟨RX8, 12, co_X8, by decide, wd_77, rfl, rfl, rfl⟩
theorem wd_89 : Cond.fieldLink RX9 138 "FarTown$Town" "things" "LFarTown$Table;" ∈ TB := tb_1 (List.mem_of_getElem? (i := 89) rfl) rfl
theorem fl_RX9_138 : Fl RX9 138 8 4 904 2 true := ⟨RX8, 12, co_X8, by decide, wd_89, rfl, rfl, rfl⟩
theorem wd_57 : Cond.fieldLink RX9 142 "FarTown$Table" "size" "I" ∈ TB := tb_1 (List.mem_of_getElem? (i := 57) rfl) rfl
theorem fl_RX9_142 : Fl RX9 142 6 3 703 0 false := ⟨RX6, 4, co_X6, by decide, wd_57, rfl, rfl, rfl⟩
theorem wd_92 : Cond.fieldLink RX9 147 "FarTown$Town" "walls" "LFarTown$Table;" ∈ TB := tb_1 (List.mem_of_getElem? (i := 92) rfl) rfl
theorem fl_RX9_147 : Fl RX9 147 8 5 905 2 true := ⟨RX8, 12, co_X8, by decide, wd_92, rfl, rfl, rfl⟩
theorem wd_96 : Cond.fieldLink RX9 150 "FarTown$Town" "fences" "LFarTown$Table;" ∈ TB := tb_1 (List.mem_of_getElem? (i := 96) rfl) rfl
theorem fl_RX9_150 : Fl RX9 150 8 6 906 2 true := ⟨RX8, 12, co_X8, by decide, wd_96, rfl, rfl, rfl⟩
theorem wd_79 : Cond.fieldLink RX9 153 "FarTown$Town" "slopeX" "I" ∈ TB := tb_1 (List.mem_of_getElem? (i := 79) rfl) rfl
theorem fl_RX9_153 : Fl RX9 153 8 2 902 0 false := ⟨RX8, 12, co_X8, by decide, wd_79, rfl, rfl, rfl⟩
theorem wd_83 : Cond.fieldLink RX9 156 "FarTown$Town" "slopeY" "I" ∈ TB := tb_1 (List.mem_of_getElem? (i := 83) rfl) rfl
theorem fl_RX9_156 : Fl RX9 156 8 3 903 0 false := ⟨RX8, 12, co_X8, by decide, wd_83, rfl, rfl, rfl⟩
theorem wd_99 : Cond.fieldLink RX9 159 "FarTown$Town" "leaves" "LFarTown$Table;" ∈ TB := tb_1 (List.mem_of_getElem? (i := 99) rfl) rfl
theorem fl_RX9_159 : Fl RX9 159 8 7 907 2 true := ⟨RX8, 12, co_X8, by decide, wd_99, rfl, rfl, rfl⟩
theorem wd_102 : Cond.fieldLink RX9 162 "FarTown$Town" "objections" "LFarTown$Table;" ∈ TB := tb_1 (List.mem_of_getElem? (i := 102) rfl) rfl
theorem fl_RX9_162 : Fl RX9 162 8 8 908 2 true := ⟨RX8, 12, co_X8, by decide, wd_102, rfl, rfl, rfl⟩
theorem wd_105 : Cond.fieldLink RX9 165 "FarTown$Town" "wishes" "LFarTown$Table;" ∈ TB := tb_1 (List.mem_of_getElem? (i := 105) rfl) rfl
theorem fl_RX9_165 : Fl RX9 165 8 9 909 2 true := ⟨RX8, 12, co_X8, by decide, wd_105, rfl, rfl, rfl⟩
theorem wd_146 : Cond.fieldLink RX9 178 "FarTown$Law" "rules" "LFarTown$Table;" ∈ TB := tb_1 (List.mem_of_getElem? (i := 146) rfl) rfl
theorem fl_RX9_178 : Fl RX9 178 2 0 300 2 true := ⟨RX2, 4, co_X2, by decide, wd_146, rfl, rfl, rfl⟩
theorem wd_149 : Cond.fieldLink RX9 181 "FarTown$Law" "harm" "Z" ∈ TB := tb_1 (List.mem_of_getElem? (i := 149) rfl) rfl
theorem fl_RX9_181 : Fl RX9 181 2 1 301 0 false := ⟨RX2, 4, co_X2, by decide, wd_149, rfl, rfl, rfl⟩
theorem wd_153 : Cond.fieldLink RX9 185 "FarTown$Law" "heedsLeave" "Z" ∈ TB := tb_1 (List.mem_of_getElem? (i := 153) rfl) rfl
theorem fl_RX9_185 : Fl RX9 185 2 2 302 0 false := ⟨RX2, 4, co_X2, by decide, wd_153, rfl, rfl, rfl⟩
theorem wd_157 : Cond.fieldLink RX9 188 "FarTown$Law" "silentDays" "I" ∈ TB := tb_1 (List.mem_of_getElem? (i := 157) rfl) rfl
theorem fl_RX9_188 : Fl RX9 188 2 3 303 0 false := ⟨RX2, 4, co_X2, by decide, wd_157, rfl, rfl, rfl⟩
theorem wd_337 : Cond.fieldLink RX9 254 "FarTown$Court" "size" "I" ∈ TB := tb_2 (List.mem_of_getElem? (i := 97) rfl) rfl
theorem fl_RX9_254 : Fl RX9 254 1 3 203 0 false := ⟨RX1, 4, co_X1, by decide, wd_337, rfl, rfl, rfl⟩
theorem wd_307 : Cond.fieldLink RX9 303 "FarTown$Scene" "without" "I" ∈ TB := tb_2 (List.mem_of_getElem? (i := 67) rfl) rfl
theorem fl_RX9_303 : Fl RX9 303 5 8 608 0 false := ⟨RX5, 9, co_X5, by decide, wd_307, rfl, rfl, rfl⟩
theorem wd_296 : Cond.fieldLink RX9 320 "FarTown$Scene" "law" "LFarTown$Law;" ∈ TB := tb_2 (List.mem_of_getElem? (i := 56) rfl) rfl
theorem fl_RX9_320 : Fl RX9 320 5 3 603 2 false := ⟨RX5, 9, co_X5, by decide, wd_296, rfl, rfl, rfl⟩
theorem wd_361 : Cond.fieldLink RX9 324 "FarTown$Planner" "movers" "I" ∈ TB := tb_2 (List.mem_of_getElem? (i := 121) rfl) rfl
theorem fl_RX9_324 : Fl RX9 324 3 4 404 0 false := ⟨RX3, 5, co_X3, by decide, wd_361, rfl, rfl, rfl⟩
theorem wd_305 : Cond.fieldLink RX9 327 "FarTown$Scene" "hours" "I" ∈ TB := tb_2 (List.mem_of_getElem? (i := 65) rfl) rfl
theorem fl_RX9_327 : Fl RX9 327 5 7 607 0 false := ⟨RX5, 9, co_X5, by decide, wd_305, rfl, rfl, rfl⟩
theorem wd_303 : Cond.fieldLink RX9 333 "FarTown$Scene" "extra" "I" ∈ TB := tb_2 (List.mem_of_getElem? (i := 63) rfl) rfl
theorem fl_RX9_333 : Fl RX9 333 5 6 606 0 false := ⟨RX5, 9, co_X5, by decide, wd_303, rfl, rfl, rfl⟩
theorem wd_273 : Cond.fieldLink RX0 7 "FarTown$Body" "faces" "I" ∈ TB := tb_2 (List.mem_of_getElem? (i := 33) rfl) rfl
theorem fl_RX0_7 : Fl RX0 7 0 3 103 0 false := ⟨RX0, 5, co_X0, by decide, wd_273, rfl, rfl, rfl⟩
theorem wd_267 : Cond.fieldLink RX0 22 "FarTown$Body" "x" "I" ∈ TB := tb_2 (List.mem_of_getElem? (i := 27) rfl) rfl
theorem fl_RX0_22 : Fl RX0 22 0 1 101 0 false := ⟨RX0, 5, co_X0, by decide, wd_267, rfl, rfl, rfl⟩
theorem wd_270 : Cond.fieldLink RX0 25 "FarTown$Body" "y" "I" ∈ TB := tb_2 (List.mem_of_getElem? (i := 30) rfl) rfl
theorem fl_RX0_25 : Fl RX0 25 0 2 102 0 false := ⟨RX0, 5, co_X0, by decide, wd_270, rfl, rfl, rfl⟩
theorem wd_333 : Cond.fieldLink RX1 9 "FarTown$Court" "scene" "LFarTown$Scene;" ∈ TB := tb_2 (List.mem_of_getElem? (i := 93) rfl) rfl
theorem fl_RX1_9 : Fl RX1 9 1 0 200 2 true := ⟨RX1, 4, co_X1, by decide, wd_333, rfl, rfl, rfl⟩
theorem wd_334 : Cond.fieldLink RX1 15 "FarTown$Court" "found" "[I" ∈ TB := tb_2 (List.mem_of_getElem? (i := 94) rfl) rfl
theorem fl_RX1_15 : Fl RX1 15 1 1 201 2 true := ⟨RX1, 4, co_X1, by decide, wd_334, rfl, rfl, rfl⟩
theorem wd_335 : Cond.fieldLink RX1 19 "FarTown$Court" "askedFences" "[Z" ∈ TB := tb_2 (List.mem_of_getElem? (i := 95) rfl) rfl
theorem fl_RX1_19 : Fl RX1 19 1 2 202 2 true := ⟨RX1, 4, co_X1, by decide, wd_335, rfl, rfl, rfl⟩
theorem wd_336 : Cond.fieldLink RX1 23 "FarTown$Court" "size" "I" ∈ TB := tb_2 (List.mem_of_getElem? (i := 96) rfl) rfl
theorem fl_RX1_23 : Fl RX1 23 1 3 203 0 false := ⟨RX1, 4, co_X1, by decide, wd_336, rfl, rfl, rfl⟩
theorem wd_295 : Cond.fieldLink RX1 37 "FarTown$Scene" "law" "LFarTown$Law;" ∈ TB := tb_2 (List.mem_of_getElem? (i := 55) rfl) rfl
theorem fl_RX1_37 : Fl RX1 37 5 3 603 2 false := ⟨RX5, 9, co_X5, by decide, wd_295, rfl, rfl, rfl⟩
theorem wd_144 : Cond.fieldLink RX1 41 "FarTown$Law" "rules" "LFarTown$Table;" ∈ TB := tb_1 (List.mem_of_getElem? (i := 144) rfl) rfl
theorem fl_RX1_41 : Fl RX1 41 2 0 300 2 true := ⟨RX2, 4, co_X2, by decide, wd_144, rfl, rfl, rfl⟩
theorem wd_56 : Cond.fieldLink RX1 47 "FarTown$Table" "size" "I" ∈ TB := tb_1 (List.mem_of_getElem? (i := 56) rfl) rfl
theorem fl_RX1_47 : Fl RX1 47 6 3 703 0 false := ⟨RX6, 4, co_X6, by decide, wd_56, rfl, rfl, rfl⟩
theorem wd_293 : Cond.fieldLink RX1 76 "FarTown$Scene" "town" "LFarTown$Town;" ∈ TB := tb_2 (List.mem_of_getElem? (i := 53) rfl) rfl
theorem fl_RX1_76 : Fl RX1 76 5 2 602 2 false := ⟨RX5, 9, co_X5, by decide, wd_293, rfl, rfl, rfl⟩
theorem wd_150 : Cond.fieldLink RX1 86 "FarTown$Law" "harm" "Z" ∈ TB := tb_1 (List.mem_of_getElem? (i := 150) rfl) rfl
theorem fl_RX1_86 : Fl RX1 86 2 1 301 0 false := ⟨RX2, 4, co_X2, by decide, wd_150, rfl, rfl, rfl⟩
theorem wd_154 : Cond.fieldLink RX1 93 "FarTown$Law" "heedsLeave" "Z" ∈ TB := tb_1 (List.mem_of_getElem? (i := 154) rfl) rfl
theorem fl_RX1_93 : Fl RX1 93 2 2 302 0 false := ⟨RX2, 4, co_X2, by decide, wd_154, rfl, rfl, rfl⟩
theorem wd_158 : Cond.fieldLink RX1 107 "FarTown$Law" "silentDays" "I" ∈ TB := tb_1 (List.mem_of_getElem? (i := 158) rfl) rfl
theorem fl_RX1_107 : Fl RX1 107 2 3 303 0 false := ⟨RX2, 4, co_X2, by decide, wd_158, rfl, rfl, rfl⟩
theorem wd_298 : Cond.fieldLink RX1 110 "FarTown$Scene" "day" "I" ∈ TB := tb_2 (List.mem_of_getElem? (i := 58) rfl) rfl
theorem fl_RX1_110 : Fl RX1 110 5 4 604 0 false := ⟨RX5, 9, co_X5, by decide, wd_298, rfl, rfl, rfl⟩
theorem wd_301 : Cond.fieldLink RX1 117 "FarTown$Scene" "standing" "I" ∈ TB := tb_2 (List.mem_of_getElem? (i := 61) rfl) rfl
theorem fl_RX1_117 : Fl RX1 117 5 5 605 0 false := ⟨RX5, 9, co_X5, by decide, wd_301, rfl, rfl, rfl⟩
theorem wd_143 : Cond.fieldLink RX2 14 "FarTown$Law" "rules" "LFarTown$Table;" ∈ TB := tb_1 (List.mem_of_getElem? (i := 143) rfl) rfl
theorem fl_RX2_14 : Fl RX2 14 2 0 300 2 true := ⟨RX2, 4, co_X2, by decide, wd_143, rfl, rfl, rfl⟩
theorem wd_156 : Cond.fieldLink RX2 20 "FarTown$Law" "silentDays" "I" ∈ TB := tb_1 (List.mem_of_getElem? (i := 156) rfl) rfl
theorem fl_RX2_20 : Fl RX2 20 2 3 303 0 false := ⟨RX2, 4, co_X2, by decide, wd_156, rfl, rfl, rfl⟩
theorem wd_53 : Cond.fieldLink RX2 24 "FarTown$Table" "size" "I" ∈ TB := tb_1 (List.mem_of_getElem? (i := 53) rfl) rfl
theorem fl_RX2_24 : Fl RX2 24 6 3 703 0 false := ⟨RX6, 4, co_X6, by decide, wd_53, rfl, rfl, rfl⟩
theorem wd_148 : Cond.fieldLink RX2 27 "FarTown$Law" "harm" "Z" ∈ TB := tb_1 (List.mem_of_getElem? (i := 148) rfl) rfl
theorem fl_RX2_27 : Fl RX2 27 2 1 301 0 false := ⟨RX2, 4, co_X2, by decide, wd_148, rfl, rfl, rfl⟩
theorem wd_152 : Cond.fieldLink RX2 31 "FarTown$Law" "heedsLeave" "Z" ∈ TB := tb_1 (List.mem_of_getElem? (i := 152) rfl) rfl
theorem fl_RX2_31 : Fl RX2 31 2 2 302 0 false := ⟨RX2, 4, co_X2, by decide, wd_152, rfl, rfl, rfl⟩
theorem wd_356 : Cond.fieldLink RX3 9 "FarTown$Planner" "scene" "LFarTown$Scene;" ∈ TB := tb_2 (List.mem_of_getElem? (i := 116) rfl) rfl
theorem fl_RX3_9 : Fl RX3 9 3 0 400 2 true := ⟨RX3, 5, co_X3, by decide, wd_356, rfl, rfl, rfl⟩
theorem wd_357 : Cond.fieldLink RX3 17 "FarTown$Planner" "guests" "[LFarTown$Body;" ∈ TB := tb_2 (List.mem_of_getElem? (i := 117) rfl) rfl
theorem fl_RX3_17 : Fl RX3 17 3 1 401 2 true := ⟨RX3, 5, co_X3, by decide, wd_357, rfl, rfl, rfl⟩
theorem wd_358 : Cond.fieldLink RX3 22 "FarTown$Planner" "allowed" "[J" ∈ TB := tb_2 (List.mem_of_getElem? (i := 118) rfl) rfl
theorem fl_RX3_22 : Fl RX3 22 3 2 402 2 true := ⟨RX3, 5, co_X3, by decide, wd_358, rfl, rfl, rfl⟩
theorem wd_359 : Cond.fieldLink RX3 26 "FarTown$Planner" "rows" "[J" ∈ TB := tb_2 (List.mem_of_getElem? (i := 119) rfl) rfl
theorem fl_RX3_26 : Fl RX3 26 3 3 403 2 true := ⟨RX3, 5, co_X3, by decide, wd_359, rfl, rfl, rfl⟩
theorem wd_266 : Cond.fieldLink RX3 33 "FarTown$Body" "kind" "I" ∈ TB := tb_2 (List.mem_of_getElem? (i := 26) rfl) rfl
theorem fl_RX3_33 : Fl RX3 33 0 0 100 0 false := ⟨RX0, 5, co_X0, by decide, wd_266, rfl, rfl, rfl⟩
theorem wd_275 : Cond.fieldLink RX3 37 "FarTown$Body" "faces" "I" ∈ TB := tb_2 (List.mem_of_getElem? (i := 35) rfl) rfl
theorem fl_RX3_37 : Fl RX3 37 0 3 103 0 false := ⟨RX0, 5, co_X0, by decide, wd_275, rfl, rfl, rfl⟩
theorem wd_277 : Cond.fieldLink RX3 40 "FarTown$Body" "grown" "I" ∈ TB := tb_2 (List.mem_of_getElem? (i := 37) rfl) rfl
theorem fl_RX3_40 : Fl RX3 40 0 4 104 0 false := ⟨RX0, 5, co_X0, by decide, wd_277, rfl, rfl, rfl⟩
theorem wd_269 : Cond.fieldLink RX3 43 "FarTown$Body" "x" "I" ∈ TB := tb_2 (List.mem_of_getElem? (i := 29) rfl) rfl
theorem fl_RX3_43 : Fl RX3 43 0 1 101 0 false := ⟨RX0, 5, co_X0, by decide, wd_269, rfl, rfl, rfl⟩
theorem wd_272 : Cond.fieldLink RX3 46 "FarTown$Body" "y" "I" ∈ TB := tb_2 (List.mem_of_getElem? (i := 32) rfl) rfl
theorem fl_RX3_46 : Fl RX3 46 0 2 102 0 false := ⟨RX0, 5, co_X0, by decide, wd_272, rfl, rfl, rfl⟩
theorem wd_292 : Cond.fieldLink RX3 49 "FarTown$Scene" "town" "LFarTown$Town;" ∈ TB := tb_2 (List.mem_of_getElem? (i := 52) rfl) rfl
theorem fl_RX3_49 : Fl RX3 49 5 2 602 2 false := ⟨RX5, 9, co_X5, by decide, wd_292, rfl, rfl, rfl⟩
theorem wd_300 : Cond.fieldLink RX3 69 "FarTown$Scene" "standing" "I" ∈ TB := tb_2 (List.mem_of_getElem? (i := 60) rfl) rfl
theorem fl_RX3_69 : Fl RX3 69 5 5 605 0 false := ⟨RX5, 9, co_X5, by decide, wd_300, rfl, rfl, rfl⟩
theorem wd_106 : Cond.fieldLink RX3 87 "FarTown$Town" "wishes" "LFarTown$Table;" ∈ TB := tb_1 (List.mem_of_getElem? (i := 106) rfl) rfl
theorem fl_RX3_87 : Fl RX3 87 8 9 909 2 true := ⟨RX8, 12, co_X8, by decide, wd_106, rfl, rfl, rfl⟩
theorem wd_59 : Cond.fieldLink RX3 91 "FarTown$Table" "size" "I" ∈ TB := tb_1 (List.mem_of_getElem? (i := 59) rfl) rfl
theorem fl_RX3_91 : Fl RX3 91 6 3 703 0 false := ⟨RX6, 4, co_X6, by decide, wd_59, rfl, rfl, rfl⟩
theorem wd_360 : Cond.fieldLink RX3 104 "FarTown$Planner" "movers" "I" ∈ TB := tb_2 (List.mem_of_getElem? (i := 120) rfl) rfl
theorem fl_RX3_104 : Fl RX3 104 3 4 404 0 false := ⟨RX3, 5, co_X3, by decide, wd_360, rfl, rfl, rfl⟩
theorem wd_211 : Cond.fieldLink RX4 12 "FarTown$Reader" "town" "LFarTown$Town;" ∈ TB := tb_1 (List.mem_of_getElem? (i := 211) rfl) rfl
theorem fl_RX4_12 : Fl RX4 12 4 0 500 2 true := ⟨RX4, 12, co_X4, by decide, wd_211, rfl, rfl, rfl⟩
theorem wd_213 : Cond.fieldLink RX4 21 "FarTown$Reader" "law" "LFarTown$Law;" ∈ TB := tb_1 (List.mem_of_getElem? (i := 213) rfl) rfl
theorem fl_RX4_21 : Fl RX4 21 4 1 501 2 true := ⟨RX4, 12, co_X4, by decide, wd_213, rfl, rfl, rfl⟩
theorem wd_215 : Cond.fieldLink RX4 25 "FarTown$Reader" "numbers" "[I" ∈ TB := tb_1 (List.mem_of_getElem? (i := 215) rfl) rfl
theorem fl_RX4_25 : Fl RX4 25 4 2 502 2 true := ⟨RX4, 12, co_X4, by decide, wd_215, rfl, rfl, rfl⟩
theorem wd_216 : Cond.fieldLink RX4 29 "FarTown$Reader" "places" "[I" ∈ TB := tb_1 (List.mem_of_getElem? (i := 216) rfl) rfl
theorem fl_RX4_29 : Fl RX4 29 4 3 503 2 true := ⟨RX4, 12, co_X4, by decide, wd_216, rfl, rfl, rfl⟩
theorem wd_223 : Cond.fieldLink RX4 42 "FarTown$Reader" "fault" "I" ∈ TB := tb_1 (List.mem_of_getElem? (i := 223) rfl) rfl
theorem fl_RX4_42 : Fl RX4 42 4 10 510 0 false := ⟨RX4, 12, co_X4, by decide, wd_223, rfl, rfl, rfl⟩
theorem wd_220 : Cond.fieldLink RX4 46 "FarTown$Reader" "token" "I" ∈ TB := tb_1 (List.mem_of_getElem? (i := 220) rfl) rfl
theorem fl_RX4_46 : Fl RX4 46 4 7 507 0 false := ⟨RX4, 12, co_X4, by decide, wd_220, rfl, rfl, rfl⟩
theorem wd_221 : Cond.fieldLink RX4 49 "FarTown$Reader" "start" "I" ∈ TB := tb_1 (List.mem_of_getElem? (i := 221) rfl) rfl
theorem fl_RX4_49 : Fl RX4 49 4 8 508 0 false := ⟨RX4, 12, co_X4, by decide, wd_221, rfl, rfl, rfl⟩
theorem wd_217 : Cond.fieldLink RX4 63 "FarTown$Reader" "tape" "[B" ∈ TB := tb_1 (List.mem_of_getElem? (i := 217) rfl) rfl
theorem fl_RX4_63 : Fl RX4 63 4 4 504 2 false := ⟨RX4, 12, co_X4, by decide, wd_217, rfl, rfl, rfl⟩
theorem wd_218 : Cond.fieldLink RX4 67 "FarTown$Reader" "length" "I" ∈ TB := tb_1 (List.mem_of_getElem? (i := 218) rfl) rfl
theorem fl_RX4_67 : Fl RX4 67 4 5 505 0 false := ⟨RX4, 12, co_X4, by decide, wd_218, rfl, rfl, rfl⟩
theorem wd_219 : Cond.fieldLink RX4 70 "FarTown$Reader" "next" "I" ∈ TB := tb_1 (List.mem_of_getElem? (i := 219) rfl) rfl
theorem fl_RX4_70 : Fl RX4 70 4 6 506 0 false := ⟨RX4, 12, co_X4, by decide, wd_219, rfl, rfl, rfl⟩
theorem wd_225 : Cond.fieldLink RX4 73 "FarTown$Reader" "place" "I" ∈ TB := tb_1 (List.mem_of_getElem? (i := 225) rfl) rfl
theorem fl_RX4_73 : Fl RX4 73 4 11 511 0 false := ⟨RX4, 12, co_X4, by decide, wd_225, rfl, rfl, rfl⟩
theorem wd_73 : Cond.fieldLink RX4 101 "FarTown$Town" "width" "I" ∈ TB := tb_1 (List.mem_of_getElem? (i := 73) rfl) rfl
theorem fl_RX4_101 : Fl RX4 101 8 0 900 0 false := ⟨RX8, 12, co_X8, by decide, wd_73, rfl, rfl, rfl⟩
theorem wd_76 : Cond.fieldLink RX4 104 "FarTown$Town" "height" "I" ∈ TB := tb_1 (List.mem_of_getElem? (i := 76) rfl) rfl
theorem fl_RX4_104 : Fl RX4 104 8 1 901 0 false := ⟨RX8, 12, co_X8, by decide, wd_76, rfl, rfl, rfl⟩
theorem wd_91 : Cond.fieldLink RX4 118 "FarTown$Town" "walls" "LFarTown$Table;" ∈ TB := tb_1 (List.mem_of_getElem? (i := 91) rfl) rfl
theorem fl_RX4_118 : Fl RX4 118 8 5 905 2 true := ⟨RX8, 12, co_X8, by decide, wd_91, rfl, rfl, rfl⟩
theorem wd_95 : Cond.fieldLink RX4 128 "FarTown$Town" "fences" "LFarTown$Table;" ∈ TB := tb_1 (List.mem_of_getElem? (i := 95) rfl) rfl
theorem fl_RX4_128 : Fl RX4 128 8 6 906 2 true := ⟨RX8, 12, co_X8, by decide, wd_95, rfl, rfl, rfl⟩
theorem wd_88 : Cond.fieldLink RX4 166 "FarTown$Town" "things" "LFarTown$Table;" ∈ TB := tb_1 (List.mem_of_getElem? (i := 88) rfl) rfl
theorem fl_RX4_166 : Fl RX4 166 8 4 904 2 true := ⟨RX8, 12, co_X8, by decide, wd_88, rfl, rfl, rfl⟩
theorem wd_108 : Cond.fieldLink RX4 199 "FarTown$Town" "winds" "[I" ∈ TB := tb_1 (List.mem_of_getElem? (i := 108) rfl) rfl
theorem fl_RX4_199 : Fl RX4 199 8 10 910 2 true := ⟨RX8, 12, co_X8, by decide, wd_108, rfl, rfl, rfl⟩
theorem wd_80 : Cond.fieldLink RX4 205 "FarTown$Town" "slopeX" "I" ∈ TB := tb_1 (List.mem_of_getElem? (i := 80) rfl) rfl
theorem fl_RX4_205 : Fl RX4 205 8 2 902 0 false := ⟨RX8, 12, co_X8, by decide, wd_80, rfl, rfl, rfl⟩
theorem wd_84 : Cond.fieldLink RX4 208 "FarTown$Town" "slopeY" "I" ∈ TB := tb_1 (List.mem_of_getElem? (i := 84) rfl) rfl
theorem fl_RX4_208 : Fl RX4 208 8 3 903 0 false := ⟨RX8, 12, co_X8, by decide, wd_84, rfl, rfl, rfl⟩
theorem wd_100 : Cond.fieldLink RX4 215 "FarTown$Town" "leaves" "LFarTown$Table;" ∈ TB := tb_1 (List.mem_of_getElem? (i := 100) rfl) rfl
theorem fl_RX4_215 : Fl RX4 215 8 7 907 2 true := ⟨RX8, 12, co_X8, by decide, wd_100, rfl, rfl, rfl⟩
theorem wd_103 : Cond.fieldLink RX4 218 "FarTown$Town" "objections" "LFarTown$Table;" ∈ TB := tb_1 (List.mem_of_getElem? (i := 103) rfl) rfl
theorem fl_RX4_218 : Fl RX4 218 8 8 908 2 true := ⟨RX8, 12, co_X8, by decide, wd_103, rfl, rfl, rfl⟩
theorem wd_60 : Cond.fieldLink RX4 221 "FarTown$Table" "size" "I" ∈ TB := tb_1 (List.mem_of_getElem? (i := 60) rfl) rfl
theorem fl_RX4_221 : Fl RX4 221 6 3 703 0 false := ⟨RX6, 4, co_X6, by decide, wd_60, rfl, rfl, rfl⟩
theorem wd_110 : Cond.fieldLink RX4 226 "FarTown$Town" "grows" "[I" ∈ TB := tb_1 (List.mem_of_getElem? (i := 110) rfl) rfl
theorem fl_RX4_226 : Fl RX4 226 8 11 911 2 true := ⟨RX8, 12, co_X8, by decide, wd_110, rfl, rfl, rfl⟩
theorem wd_151 : Cond.fieldLink RX4 239 "FarTown$Law" "harm" "Z" ∈ TB := tb_1 (List.mem_of_getElem? (i := 151) rfl) rfl
theorem fl_RX4_239 : Fl RX4 239 2 1 301 0 false := ⟨RX2, 4, co_X2, by decide, wd_151, rfl, rfl, rfl⟩
theorem wd_155 : Cond.fieldLink RX4 242 "FarTown$Law" "heedsLeave" "Z" ∈ TB := tb_1 (List.mem_of_getElem? (i := 155) rfl) rfl
theorem fl_RX4_242 : Fl RX4 242 2 2 302 0 false := ⟨RX2, 4, co_X2, by decide, wd_155, rfl, rfl, rfl⟩
theorem wd_147 : Cond.fieldLink RX4 256 "FarTown$Law" "rules" "LFarTown$Table;" ∈ TB := tb_1 (List.mem_of_getElem? (i := 147) rfl) rfl
theorem fl_RX4_256 : Fl RX4 256 2 0 300 2 true := ⟨RX2, 4, co_X2, by decide, wd_147, rfl, rfl, rfl⟩
theorem wd_159 : Cond.fieldLink RX4 259 "FarTown$Law" "silentDays" "I" ∈ TB := tb_1 (List.mem_of_getElem? (i := 159) rfl) rfl
theorem fl_RX4_259 : Fl RX4 259 2 3 303 0 false := ⟨RX2, 4, co_X2, by decide, wd_159, rfl, rfl, rfl⟩
theorem wd_50 : Cond.fieldLink RX4 262 "FarTown$Table" "most" "I" ∈ TB := tb_1 (List.mem_of_getElem? (i := 50) rfl) rfl
theorem fl_RX4_262 : Fl RX4 262 6 0 700 0 true := ⟨RX6, 4, co_X6, by decide, wd_50, rfl, rfl, rfl⟩
theorem wd_222 : Cond.fieldLink RX4 265 "FarTown$Reader" "value" "I" ∈ TB := tb_1 (List.mem_of_getElem? (i := 222) rfl) rfl
theorem fl_RX4_265 : Fl RX4 265 4 9 509 0 false := ⟨RX4, 12, co_X4, by decide, wd_222, rfl, rfl, rfl⟩
theorem wd_289 : Cond.fieldLink RX5 11 "FarTown$Scene" "bodies" "[LFarTown$Body;" ∈ TB := tb_2 (List.mem_of_getElem? (i := 49) rfl) rfl
theorem fl_RX5_11 : Fl RX5 11 5 0 600 2 true := ⟨RX5, 9, co_X5, by decide, wd_289, rfl, rfl, rfl⟩
theorem wd_290 : Cond.fieldLink RX5 18 "FarTown$Scene" "foeRow" "[I" ∈ TB := tb_2 (List.mem_of_getElem? (i := 50) rfl) rfl
theorem fl_RX5_18 : Fl RX5 18 5 1 601 2 true := ⟨RX5, 9, co_X5, by decide, wd_290, rfl, rfl, rfl⟩
theorem wd_291 : Cond.fieldLink RX5 22 "FarTown$Scene" "town" "LFarTown$Town;" ∈ TB := tb_2 (List.mem_of_getElem? (i := 51) rfl) rfl
theorem fl_RX5_22 : Fl RX5 22 5 2 602 2 false := ⟨RX5, 9, co_X5, by decide, wd_291, rfl, rfl, rfl⟩
theorem wd_294 : Cond.fieldLink RX5 26 "FarTown$Scene" "law" "LFarTown$Law;" ∈ TB := tb_2 (List.mem_of_getElem? (i := 54) rfl) rfl
theorem fl_RX5_26 : Fl RX5 26 5 3 603 2 false := ⟨RX5, 9, co_X5, by decide, wd_294, rfl, rfl, rfl⟩
theorem wd_297 : Cond.fieldLink RX5 30 "FarTown$Scene" "day" "I" ∈ TB := tb_2 (List.mem_of_getElem? (i := 57) rfl) rfl
theorem fl_RX5_30 : Fl RX5 30 5 4 604 0 false := ⟨RX5, 9, co_X5, by decide, wd_297, rfl, rfl, rfl⟩
theorem wd_302 : Cond.fieldLink RX5 34 "FarTown$Scene" "extra" "I" ∈ TB := tb_2 (List.mem_of_getElem? (i := 62) rfl) rfl
theorem fl_RX5_34 : Fl RX5 34 5 6 606 0 false := ⟨RX5, 9, co_X5, by decide, wd_302, rfl, rfl, rfl⟩
theorem wd_304 : Cond.fieldLink RX5 37 "FarTown$Scene" "hours" "I" ∈ TB := tb_2 (List.mem_of_getElem? (i := 64) rfl) rfl
theorem fl_RX5_37 : Fl RX5 37 5 7 607 0 false := ⟨RX5, 9, co_X5, by decide, wd_304, rfl, rfl, rfl⟩
theorem wd_306 : Cond.fieldLink RX5 40 "FarTown$Scene" "without" "I" ∈ TB := tb_2 (List.mem_of_getElem? (i := 66) rfl) rfl
theorem fl_RX5_40 : Fl RX5 40 5 8 608 0 false := ⟨RX5, 9, co_X5, by decide, wd_306, rfl, rfl, rfl⟩
theorem wd_299 : Cond.fieldLink RX5 43 "FarTown$Scene" "standing" "I" ∈ TB := tb_2 (List.mem_of_getElem? (i := 59) rfl) rfl
theorem fl_RX5_43 : Fl RX5 43 5 5 605 0 false := ⟨RX5, 9, co_X5, by decide, wd_299, rfl, rfl, rfl⟩
theorem wd_87 : Cond.fieldLink RX5 52 "FarTown$Town" "things" "LFarTown$Table;" ∈ TB := tb_1 (List.mem_of_getElem? (i := 87) rfl) rfl
theorem fl_RX5_52 : Fl RX5 52 8 4 904 2 true := ⟨RX8, 12, co_X8, by decide, wd_87, rfl, rfl, rfl⟩
theorem wd_265 : Cond.fieldLink RX5 62 "FarTown$Body" "kind" "I" ∈ TB := tb_2 (List.mem_of_getElem? (i := 25) rfl) rfl
theorem fl_RX5_62 : Fl RX5 62 0 0 100 0 false := ⟨RX0, 5, co_X0, by decide, wd_265, rfl, rfl, rfl⟩
theorem wd_268 : Cond.fieldLink RX5 65 "FarTown$Body" "x" "I" ∈ TB := tb_2 (List.mem_of_getElem? (i := 28) rfl) rfl
theorem fl_RX5_65 : Fl RX5 65 0 1 101 0 false := ⟨RX0, 5, co_X0, by decide, wd_268, rfl, rfl, rfl⟩
theorem wd_271 : Cond.fieldLink RX5 68 "FarTown$Body" "y" "I" ∈ TB := tb_2 (List.mem_of_getElem? (i := 31) rfl) rfl
theorem fl_RX5_68 : Fl RX5 68 0 2 102 0 false := ⟨RX0, 5, co_X0, by decide, wd_271, rfl, rfl, rfl⟩
theorem wd_274 : Cond.fieldLink RX5 71 "FarTown$Body" "faces" "I" ∈ TB := tb_2 (List.mem_of_getElem? (i := 34) rfl) rfl
theorem fl_RX5_71 : Fl RX5 71 0 3 103 0 false := ⟨RX0, 5, co_X0, by decide, wd_274, rfl, rfl, rfl⟩
theorem wd_276 : Cond.fieldLink RX5 77 "FarTown$Body" "grown" "I" ∈ TB := tb_2 (List.mem_of_getElem? (i := 36) rfl) rfl
theorem fl_RX5_77 : Fl RX5 77 0 4 104 0 false := ⟨RX0, 5, co_X0, by decide, wd_276, rfl, rfl, rfl⟩
theorem wd_145 : Cond.fieldLink RX5 98 "FarTown$Law" "rules" "LFarTown$Table;" ∈ TB := tb_1 (List.mem_of_getElem? (i := 145) rfl) rfl
theorem fl_RX5_98 : Fl RX5 98 2 0 300 2 true := ⟨RX2, 4, co_X2, by decide, wd_145, rfl, rfl, rfl⟩
theorem wd_58 : Cond.fieldLink RX5 103 "FarTown$Table" "size" "I" ∈ TB := tb_1 (List.mem_of_getElem? (i := 58) rfl) rfl
theorem fl_RX5_103 : Fl RX5 103 6 3 703 0 false := ⟨RX6, 4, co_X6, by decide, wd_58, rfl, rfl, rfl⟩
theorem wd_93 : Cond.fieldLink RX5 114 "FarTown$Town" "walls" "LFarTown$Table;" ∈ TB := tb_1 (List.mem_of_getElem? (i := 93) rfl) rfl
theorem fl_RX5_114 : Fl RX5 114 8 5 905 2 true := ⟨RX8, 12, co_X8, by decide, wd_93, rfl, rfl, rfl⟩
theorem wd_81 : Cond.fieldLink RX5 125 "FarTown$Town" "slopeX" "I" ∈ TB := tb_1 (List.mem_of_getElem? (i := 81) rfl) rfl
theorem fl_RX5_125 : Fl RX5 125 8 2 902 0 false := ⟨RX8, 12, co_X8, by decide, wd_81, rfl, rfl, rfl⟩
theorem wd_85 : Cond.fieldLink RX5 128 "FarTown$Town" "slopeY" "I" ∈ TB := tb_1 (List.mem_of_getElem? (i := 85) rfl) rfl
theorem fl_RX5_128 : Fl RX5 128 8 3 903 0 false := ⟨RX8, 12, co_X8, by decide, wd_85, rfl, rfl, rfl⟩
theorem wd_97 : Cond.fieldLink RX5 135 "FarTown$Town" "fences" "LFarTown$Table;" ∈ TB := tb_1 (List.mem_of_getElem? (i := 97) rfl) rfl
theorem fl_RX5_135 : Fl RX5 135 8 6 906 2 true := ⟨RX8, 12, co_X8, by decide, wd_97, rfl, rfl, rfl⟩
theorem wd_49 : Cond.fieldLink RX6 9 "FarTown$Table" "most" "I" ∈ TB := tb_1 (List.mem_of_getElem? (i := 49) rfl) rfl
theorem fl_RX6_9 : Fl RX6 9 6 0 700 0 true := ⟨RX6, 4, co_X6, by decide, wd_49, rfl, rfl, rfl⟩
theorem wd_51 : Cond.fieldLink RX6 15 "FarTown$Table" "wide" "I" ∈ TB := tb_1 (List.mem_of_getElem? (i := 51) rfl) rfl
theorem fl_RX6_15 : Fl RX6 15 6 1 701 0 true := ⟨RX6, 4, co_X6, by decide, wd_51, rfl, rfl, rfl⟩
theorem wd_52 : Cond.fieldLink RX6 18 "FarTown$Table" "cells" "[I" ∈ TB := tb_1 (List.mem_of_getElem? (i := 52) rfl) rfl
theorem fl_RX6_18 : Fl RX6 18 6 2 702 2 true := ⟨RX6, 4, co_X6, by decide, wd_52, rfl, rfl, rfl⟩
theorem wd_54 : Cond.fieldLink RX6 22 "FarTown$Table" "size" "I" ∈ TB := tb_1 (List.mem_of_getElem? (i := 54) rfl) rfl
theorem fl_RX6_22 : Fl RX6 22 6 3 703 0 false := ⟨RX6, 4, co_X6, by decide, wd_54, rfl, rfl, rfl⟩
theorem wd_169 : Cond.fieldLink RX7 9 "FarTown$Told" "tape" "[B" ∈ TB := tb_1 (List.mem_of_getElem? (i := 169) rfl) rfl
theorem fl_RX7_9 : Fl RX7 9 7 0 800 2 true := ⟨RX7, 8, co_X7, by decide, wd_169, rfl, rfl, rfl⟩
theorem wd_175 : Cond.fieldLink RX7 15 "FarTown$Told" "place" "I" ∈ TB := tb_1 (List.mem_of_getElem? (i := 175) rfl) rfl
theorem fl_RX7_15 : Fl RX7 15 7 3 803 0 false := ⟨RX7, 8, co_X7, by decide, wd_175, rfl, rfl, rfl⟩
theorem wd_181 : Cond.fieldLink RX7 21 "FarTown$Told" "townRow" "[LFarTown$Town;" ∈ TB := tb_1 (List.mem_of_getElem? (i := 181) rfl) rfl
theorem fl_RX7_21 : Fl RX7 21 7 6 806 2 true := ⟨RX7, 8, co_X7, by decide, wd_181, rfl, rfl, rfl⟩
theorem wd_182 : Cond.fieldLink RX7 27 "FarTown$Told" "lawRow" "[LFarTown$Law;" ∈ TB := tb_1 (List.mem_of_getElem? (i := 182) rfl) rfl
theorem fl_RX7_27 : Fl RX7 27 7 7 807 2 true := ⟨RX7, 8, co_X7, by decide, wd_182, rfl, rfl, rfl⟩
theorem wd_172 : Cond.fieldLink RX7 33 "FarTown$Told" "length" "I" ∈ TB := tb_1 (List.mem_of_getElem? (i := 172) rfl) rfl
theorem fl_RX7_33 : Fl RX7 33 7 1 801 0 false := ⟨RX7, 8, co_X7, by decide, wd_172, rfl, rfl, rfl⟩
theorem wd_173 : Cond.fieldLink RX7 40 "FarTown$Told" "fault" "I" ∈ TB := tb_1 (List.mem_of_getElem? (i := 173) rfl) rfl
theorem fl_RX7_40 : Fl RX7 40 7 2 802 0 false := ⟨RX7, 8, co_X7, by decide, wd_173, rfl, rfl, rfl⟩
theorem wd_178 : Cond.fieldLink RX7 43 "FarTown$Told" "towns" "I" ∈ TB := tb_1 (List.mem_of_getElem? (i := 178) rfl) rfl
theorem fl_RX7_43 : Fl RX7 43 7 4 804 0 false := ⟨RX7, 8, co_X7, by decide, wd_178, rfl, rfl, rfl⟩
theorem wd_180 : Cond.fieldLink RX7 50 "FarTown$Told" "laws" "I" ∈ TB := tb_1 (List.mem_of_getElem? (i := 180) rfl) rfl
theorem fl_RX7_50 : Fl RX7 50 7 5 805 0 false := ⟨RX7, 8, co_X7, by decide, wd_180, rfl, rfl, rfl⟩
theorem wd_86 : Cond.fieldLink RX8 14 "FarTown$Town" "things" "LFarTown$Table;" ∈ TB := tb_1 (List.mem_of_getElem? (i := 86) rfl) rfl
theorem fl_RX8_14 : Fl RX8 14 8 4 904 2 true := ⟨RX8, 12, co_X8, by decide, wd_86, rfl, rfl, rfl⟩
theorem wd_90 : Cond.fieldLink RX8 20 "FarTown$Town" "walls" "LFarTown$Table;" ∈ TB := tb_1 (List.mem_of_getElem? (i := 90) rfl) rfl
theorem fl_RX8_20 : Fl RX8 20 8 5 905 2 true := ⟨RX8, 12, co_X8, by decide, wd_90, rfl, rfl, rfl⟩
theorem wd_94 : Cond.fieldLink RX8 23 "FarTown$Town" "fences" "LFarTown$Table;" ∈ TB := tb_1 (List.mem_of_getElem? (i := 94) rfl) rfl
theorem fl_RX8_23 : Fl RX8 23 8 6 906 2 true := ⟨RX8, 12, co_X8, by decide, wd_94, rfl, rfl, rfl⟩
theorem wd_98 : Cond.fieldLink RX8 26 "FarTown$Town" "leaves" "LFarTown$Table;" ∈ TB := tb_1 (List.mem_of_getElem? (i := 98) rfl) rfl
theorem fl_RX8_26 : Fl RX8 26 8 7 907 2 true := ⟨RX8, 12, co_X8, by decide, wd_98, rfl, rfl, rfl⟩
theorem wd_101 : Cond.fieldLink RX8 29 "FarTown$Town" "objections" "LFarTown$Table;" ∈ TB := tb_1 (List.mem_of_getElem? (i := 101) rfl) rfl
theorem fl_RX8_29 : Fl RX8 29 8 8 908 2 true := ⟨RX8, 12, co_X8, by decide, wd_101, rfl, rfl, rfl⟩
theorem wd_104 : Cond.fieldLink RX8 32 "FarTown$Town" "wishes" "LFarTown$Table;" ∈ TB := tb_1 (List.mem_of_getElem? (i := 104) rfl) rfl
theorem fl_RX8_32 : Fl RX8 32 8 9 909 2 true := ⟨RX8, 12, co_X8, by decide, wd_104, rfl, rfl, rfl⟩
theorem wd_107 : Cond.fieldLink RX8 35 "FarTown$Town" "winds" "[I" ∈ TB := tb_1 (List.mem_of_getElem? (i := 107) rfl) rfl
theorem fl_RX8_35 : Fl RX8 35 8 10 910 2 true := ⟨RX8, 12, co_X8, by decide, wd_107, rfl, rfl, rfl⟩
theorem wd_109 : Cond.fieldLink RX8 39 "FarTown$Town" "grows" "[I" ∈ TB := tb_1 (List.mem_of_getElem? (i := 109) rfl) rfl
theorem fl_RX8_39 : Fl RX8 39 8 11 911 2 true := ⟨RX8, 12, co_X8, by decide, wd_109, rfl, rfl, rfl⟩
theorem wd_72 : Cond.fieldLink RX8 42 "FarTown$Town" "width" "I" ∈ TB := tb_1 (List.mem_of_getElem? (i := 72) rfl) rfl
theorem fl_RX8_42 : Fl RX8 42 8 0 900 0 false := ⟨RX8, 12, co_X8, by decide, wd_72, rfl, rfl, rfl⟩
theorem wd_75 : Cond.fieldLink RX8 46 "FarTown$Town" "height" "I" ∈ TB := tb_1 (List.mem_of_getElem? (i := 75) rfl) rfl
theorem fl_RX8_46 : Fl RX8 46 8 1 901 0 false := ⟨RX8, 12, co_X8, by decide, wd_75, rfl, rfl, rfl⟩
theorem wd_78 : Cond.fieldLink RX8 49 "FarTown$Town" "slopeX" "I" ∈ TB := tb_1 (List.mem_of_getElem? (i := 78) rfl) rfl
theorem fl_RX8_49 : Fl RX8 49 8 2 902 0 false := ⟨RX8, 12, co_X8, by decide, wd_78, rfl, rfl, rfl⟩
theorem wd_82 : Cond.fieldLink RX8 52 "FarTown$Town" "slopeY" "I" ∈ TB := tb_1 (List.mem_of_getElem? (i := 82) rfl) rfl
theorem fl_RX8_52 : Fl RX8 52 8 3 903 0 false := ⟨RX8, 12, co_X8, by decide, wd_82, rfl, rfl, rfl⟩
theorem wd_55 : Cond.fieldLink RX8 55 "FarTown$Table" "size" "I" ∈ TB := tb_1 (List.mem_of_getElem? (i := 55) rfl) rfl
theorem fl_RX8_55 : Fl RX8 55 6 3 703 0 false := ⟨RX6, 4, co_X6, by decide, wd_55, rfl, rfl, rfl⟩
theorem wd_1146 : Cond.fieldLink RX10 7 "FarTownModel" "tape" "[B" ∈ TB := tb_5 (List.mem_of_getElem? (i := 186) rfl) rfl
theorem fl_RX10_7 : Fl RX10 7 10 1 1101 2 true := ⟨RX10, 84, co_X10, by decide, wd_1146, rfl, rfl, rfl⟩
theorem wd_1147 : Cond.fieldLink RX10 13 "FarTownModel" "size" "[I" ∈ TB := tb_5 (List.mem_of_getElem? (i := 187) rfl) rfl
theorem fl_RX10_13 : Fl RX10 13 10 2 1102 2 true := ⟨RX10, 84, co_X10, by decide, wd_1147, rfl, rfl, rfl⟩
theorem wd_1148 : Cond.fieldLink RX10 17 "FarTownModel" "fault" "[I" ∈ TB := tb_5 (List.mem_of_getElem? (i := 188) rfl) rfl
theorem fl_RX10_17 : Fl RX10 17 10 3 1103 2 true := ⟨RX10, 84, co_X10, by decide, wd_1148, rfl, rfl, rfl⟩
theorem wd_1149 : Cond.fieldLink RX10 20 "FarTownModel" "faultPlace" "[I" ∈ TB := tb_5 (List.mem_of_getElem? (i := 189) rfl) rfl
theorem fl_RX10_20 : Fl RX10 20 10 4 1104 2 true := ⟨RX10, 84, co_X10, by decide, wd_1149, rfl, rfl, rfl⟩
theorem wd_1150 : Cond.fieldLink RX10 23 "FarTownModel" "towns" "[I" ∈ TB := tb_5 (List.mem_of_getElem? (i := 190) rfl) rfl
theorem fl_RX10_23 : Fl RX10 23 10 5 1105 2 true := ⟨RX10, 84, co_X10, by decide, wd_1150, rfl, rfl, rfl⟩
theorem wd_1151 : Cond.fieldLink RX10 26 "FarTownModel" "told" "[I" ∈ TB := tb_5 (List.mem_of_getElem? (i := 191) rfl) rfl
theorem fl_RX10_26 : Fl RX10 26 10 6 1106 2 true := ⟨RX10, 84, co_X10, by decide, wd_1151, rfl, rfl, rfl⟩
theorem wd_1152 : Cond.fieldLink RX10 29 "FarTownModel" "kind" "[I" ∈ TB := tb_5 (List.mem_of_getElem? (i := 192) rfl) rfl
theorem fl_RX10_29 : Fl RX10 29 10 7 1107 2 true := ⟨RX10, 84, co_X10, by decide, wd_1152, rfl, rfl, rfl⟩
theorem wd_1153 : Cond.fieldLink RX10 32 "FarTownModel" "atX" "[I" ∈ TB := tb_5 (List.mem_of_getElem? (i := 193) rfl) rfl
theorem fl_RX10_32 : Fl RX10 32 10 8 1108 2 true := ⟨RX10, 84, co_X10, by decide, wd_1153, rfl, rfl, rfl⟩
theorem wd_1154 : Cond.fieldLink RX10 35 "FarTownModel" "atY" "[I" ∈ TB := tb_5 (List.mem_of_getElem? (i := 194) rfl) rfl
theorem fl_RX10_35 : Fl RX10 35 10 9 1109 2 true := ⟨RX10, 84, co_X10, by decide, wd_1154, rfl, rfl, rfl⟩
theorem wd_1155 : Cond.fieldLink RX10 38 "FarTownModel" "house" "[I" ∈ TB := tb_5 (List.mem_of_getElem? (i := 195) rfl) rfl
theorem fl_RX10_38 : Fl RX10 38 10 10 1110 2 true := ⟨RX10, 84, co_X10, by decide, wd_1155, rfl, rfl, rfl⟩
theorem wd_1156 : Cond.fieldLink RX10 41 "FarTownModel" "since" "[I" ∈ TB := tb_5 (List.mem_of_getElem? (i := 196) rfl) rfl
theorem fl_RX10_41 : Fl RX10 41 10 11 1111 2 true := ⟨RX10, 84, co_X10, by decide, wd_1156, rfl, rfl, rfl⟩
theorem wd_1157 : Cond.fieldLink RX10 44 "FarTownModel" "faces" "[I" ∈ TB := tb_5 (List.mem_of_getElem? (i := 197) rfl) rfl
theorem fl_RX10_44 : Fl RX10 44 10 12 1112 2 true := ⟨RX10, 84, co_X10, by decide, wd_1157, rfl, rfl, rfl⟩
theorem wd_1158 : Cond.fieldLink RX10 47 "FarTownModel" "cost" "[I" ∈ TB := tb_5 (List.mem_of_getElem? (i := 198) rfl) rfl
theorem fl_RX10_47 : Fl RX10 47 10 13 1113 2 true := ⟨RX10, 84, co_X10, by decide, wd_1158, rfl, rfl, rfl⟩
theorem wd_1159 : Cond.fieldLink RX10 50 "FarTownModel" "goneBy" "[I" ∈ TB := tb_5 (List.mem_of_getElem? (i := 199) rfl) rfl
theorem fl_RX10_50 : Fl RX10 50 10 14 1114 2 true := ⟨RX10, 84, co_X10, by decide, wd_1159, rfl, rfl, rfl⟩
theorem wd_1160 : Cond.fieldLink RX10 53 "FarTownModel" "wallX" "[I" ∈ TB := tb_5 (List.mem_of_getElem? (i := 200) rfl) rfl
theorem fl_RX10_53 : Fl RX10 53 10 15 1115 2 true := ⟨RX10, 84, co_X10, by decide, wd_1160, rfl, rfl, rfl⟩
theorem wd_1161 : Cond.fieldLink RX10 56 "FarTownModel" "wallY" "[I" ∈ TB := tb_5 (List.mem_of_getElem? (i := 201) rfl) rfl
theorem fl_RX10_56 : Fl RX10 56 10 16 1116 2 true := ⟨RX10, 84, co_X10, by decide, wd_1161, rfl, rfl, rfl⟩
theorem wd_1162 : Cond.fieldLink RX10 59 "FarTownModel" "wallU" "[I" ∈ TB := tb_5 (List.mem_of_getElem? (i := 202) rfl) rfl
theorem fl_RX10_59 : Fl RX10 59 10 17 1117 2 true := ⟨RX10, 84, co_X10, by decide, wd_1162, rfl, rfl, rfl⟩
theorem wd_1163 : Cond.fieldLink RX10 62 "FarTownModel" "wallV" "[I" ∈ TB := tb_5 (List.mem_of_getElem? (i := 203) rfl) rfl
theorem fl_RX10_62 : Fl RX10 62 10 18 1118 2 true := ⟨RX10, 84, co_X10, by decide, wd_1163, rfl, rfl, rfl⟩
theorem wd_1164 : Cond.fieldLink RX10 65 "FarTownModel" "wallDay" "[I" ∈ TB := tb_5 (List.mem_of_getElem? (i := 204) rfl) rfl
theorem fl_RX10_65 : Fl RX10 65 10 19 1119 2 true := ⟨RX10, 84, co_X10, by decide, wd_1164, rfl, rfl, rfl⟩
theorem wd_1165 : Cond.fieldLink RX10 68 "FarTownModel" "leaveFrom" "[I" ∈ TB := tb_5 (List.mem_of_getElem? (i := 205) rfl) rfl
theorem fl_RX10_68 : Fl RX10 68 10 20 1120 2 true := ⟨RX10, 84, co_X10, by decide, wd_1165, rfl, rfl, rfl⟩
theorem wd_1166 : Cond.fieldLink RX10 71 "FarTownModel" "leaveTo" "[I" ∈ TB := tb_5 (List.mem_of_getElem? (i := 206) rfl) rfl
theorem fl_RX10_71 : Fl RX10 71 10 21 1121 2 true := ⟨RX10, 84, co_X10, by decide, wd_1166, rfl, rfl, rfl⟩
theorem wd_1167 : Cond.fieldLink RX10 74 "FarTownModel" "leaveDay" "[I" ∈ TB := tb_5 (List.mem_of_getElem? (i := 207) rfl) rfl
theorem fl_RX10_74 : Fl RX10 74 10 22 1122 2 true := ⟨RX10, 84, co_X10, by decide, wd_1167, rfl, rfl, rfl⟩
theorem wd_1168 : Cond.fieldLink RX10 77 "FarTownModel" "objector" "[I" ∈ TB := tb_5 (List.mem_of_getElem? (i := 208) rfl) rfl
theorem fl_RX10_77 : Fl RX10 77 10 23 1123 2 true := ⟨RX10, 84, co_X10, by decide, wd_1168, rfl, rfl, rfl⟩
theorem wd_1169 : Cond.fieldLink RX10 80 "FarTownModel" "objectTo" "[I" ∈ TB := tb_5 (List.mem_of_getElem? (i := 209) rfl) rfl
theorem fl_RX10_80 : Fl RX10 80 10 24 1124 2 true := ⟨RX10, 84, co_X10, by decide, wd_1169, rfl, rfl, rfl⟩
theorem wd_1170 : Cond.fieldLink RX10 83 "FarTownModel" "objectDay" "[I" ∈ TB := tb_5 (List.mem_of_getElem? (i := 210) rfl) rfl
theorem fl_RX10_83 : Fl RX10 83 10 25 1125 2 true := ⟨RX10, 84, co_X10, by decide, wd_1170, rfl, rfl, rfl⟩
theorem wd_1171 : Cond.fieldLink RX10 86 "FarTownModel" "wishKind" "[I" ∈ TB := tb_5 (List.mem_of_getElem? (i := 211) rfl) rfl
theorem fl_RX10_86 : Fl RX10 86 10 26 1126 2 true := ⟨RX10, 84, co_X10, by decide, wd_1171, rfl, rfl, rfl⟩
theorem wd_1172 : Cond.fieldLink RX10 89 "FarTownModel" "wishFaces" "[I" ∈ TB := tb_5 (List.mem_of_getElem? (i := 212) rfl) rfl
theorem fl_RX10_89 : Fl RX10 89 10 27 1127 2 true := ⟨RX10, 84, co_X10, by decide, wd_1172, rfl, rfl, rfl⟩
theorem wd_1173 : Cond.fieldLink RX10 92 "FarTownModel" "laws" "[I" ∈ TB := tb_5 (List.mem_of_getElem? (i := 213) rfl) rfl
theorem fl_RX10_92 : Fl RX10 92 10 28 1128 2 true := ⟨RX10, 84, co_X10, by decide, wd_1173, rfl, rfl, rfl⟩
theorem wd_1174 : Cond.fieldLink RX10 95 "FarTownModel" "rules" "[I" ∈ TB := tb_5 (List.mem_of_getElem? (i := 214) rfl) rfl
theorem fl_RX10_95 : Fl RX10 95 10 29 1129 2 true := ⟨RX10, 84, co_X10, by decide, wd_1174, rfl, rfl, rfl⟩
theorem wd_1175 : Cond.fieldLink RX10 98 "FarTownModel" "byHarm" "[I" ∈ TB := tb_5 (List.mem_of_getElem? (i := 215) rfl) rfl
theorem fl_RX10_98 : Fl RX10 98 10 30 1130 2 true := ⟨RX10, 84, co_X10, by decide, wd_1175, rfl, rfl, rfl⟩
theorem wd_1176 : Cond.fieldLink RX10 101 "FarTownModel" "byLeave" "[I" ∈ TB := tb_5 (List.mem_of_getElem? (i := 216) rfl) rfl
theorem fl_RX10_101 : Fl RX10 101 10 31 1131 2 true := ⟨RX10, 84, co_X10, by decide, wd_1176, rfl, rfl, rfl⟩
theorem wd_1177 : Cond.fieldLink RX10 104 "FarTownModel" "silent" "[I" ∈ TB := tb_5 (List.mem_of_getElem? (i := 217) rfl) rfl
theorem fl_RX10_104 : Fl RX10 104 10 32 1132 2 true := ⟨RX10, 84, co_X10, by decide, wd_1177, rfl, rfl, rfl⟩
theorem wd_1178 : Cond.fieldLink RX10 107 "FarTownModel" "ruleSort" "[I" ∈ TB := tb_5 (List.mem_of_getElem? (i := 218) rfl) rfl
theorem fl_RX10_107 : Fl RX10 107 10 33 1133 2 true := ⟨RX10, 84, co_X10, by decide, wd_1178, rfl, rfl, rfl⟩
theorem wd_1179 : Cond.fieldLink RX10 110 "FarTownModel" "ruleFirst" "[I" ∈ TB := tb_5 (List.mem_of_getElem? (i := 219) rfl) rfl
theorem fl_RX10_110 : Fl RX10 110 10 34 1134 2 true := ⟨RX10, 84, co_X10, by decide, wd_1179, rfl, rfl, rfl⟩
theorem wd_1180 : Cond.fieldLink RX10 113 "FarTownModel" "ruleSecond" "[I" ∈ TB := tb_5 (List.mem_of_getElem? (i := 220) rfl) rfl
theorem fl_RX10_113 : Fl RX10 113 10 35 1135 2 true := ⟨RX10, 84, co_X10, by decide, wd_1180, rfl, rfl, rfl⟩
theorem wd_1181 : Cond.fieldLink RX10 116 "FarTownModel" "ruleFar" "[I" ∈ TB := tb_5 (List.mem_of_getElem? (i := 221) rfl) rfl
theorem fl_RX10_116 : Fl RX10 116 10 36 1136 2 true := ⟨RX10, 84, co_X10, by decide, wd_1181, rfl, rfl, rfl⟩
theorem wd_1182 : Cond.fieldLink RX10 119 "FarTownModel" "ruleWall" "[I" ∈ TB := tb_5 (List.mem_of_getElem? (i := 222) rfl) rfl
theorem fl_RX10_119 : Fl RX10 119 10 37 1137 2 true := ⟨RX10, 84, co_X10, by decide, wd_1182, rfl, rfl, rfl⟩
theorem wd_1192 : Cond.fieldLink RX10 122 "FarTownModel" "read" "[I" ∈ TB := tb_5 (List.mem_of_getElem? (i := 232) rfl) rfl
theorem fl_RX10_122 : Fl RX10 122 10 47 1147 2 true := ⟨RX10, 84, co_X10, by decide, wd_1192, rfl, rfl, rfl⟩
theorem wd_1195 : Cond.fieldLink RX10 125 "FarTownModel" "newTold" "[I" ∈ TB := tb_5 (List.mem_of_getElem? (i := 235) rfl) rfl
theorem fl_RX10_125 : Fl RX10 125 10 50 1150 2 true := ⟨RX10, 84, co_X10, by decide, wd_1195, rfl, rfl, rfl⟩
theorem wd_1196 : Cond.fieldLink RX10 128 "FarTownModel" "newThing" "[I" ∈ TB := tb_5 (List.mem_of_getElem? (i := 236) rfl) rfl
theorem fl_RX10_128 : Fl RX10 128 10 51 1151 2 true := ⟨RX10, 84, co_X10, by decide, wd_1196, rfl, rfl, rfl⟩
theorem wd_1197 : Cond.fieldLink RX10 131 "FarTownModel" "newWall" "[I" ∈ TB := tb_5 (List.mem_of_getElem? (i := 237) rfl) rfl
theorem fl_RX10_131 : Fl RX10 131 10 52 1152 2 true := ⟨RX10, 84, co_X10, by decide, wd_1197, rfl, rfl, rfl⟩
theorem wd_1198 : Cond.fieldLink RX10 134 "FarTownModel" "newLeave" "[I" ∈ TB := tb_5 (List.mem_of_getElem? (i := 238) rfl) rfl
theorem fl_RX10_134 : Fl RX10 134 10 53 1153 2 true := ⟨RX10, 84, co_X10, by decide, wd_1198, rfl, rfl, rfl⟩
theorem wd_1199 : Cond.fieldLink RX10 137 "FarTownModel" "newObject" "[I" ∈ TB := tb_5 (List.mem_of_getElem? (i := 239) rfl) rfl
theorem fl_RX10_137 : Fl RX10 137 10 54 1154 2 true := ⟨RX10, 84, co_X10, by decide, wd_1199, rfl, rfl, rfl⟩
theorem wd_1204 : Cond.fieldLink RX10 140 "FarTownModel" "newRule" "[I" ∈ TB := tb_6 (List.mem_of_getElem? (i := 4) rfl) rfl
theorem fl_RX10_140 : Fl RX10 140 10 59 1159 2 true := ⟨RX10, 84, co_X10, by decide, wd_1204, rfl, rfl, rfl⟩
theorem wd_1205 : Cond.fieldLink RX10 143 "FarTownModel" "kindAt" "[I" ∈ TB := tb_6 (List.mem_of_getElem? (i := 5) rfl) rfl
theorem fl_RX10_143 : Fl RX10 143 10 60 1160 2 true := ⟨RX10, 84, co_X10, by decide, wd_1205, rfl, rfl, rfl⟩
theorem wd_1206 : Cond.fieldLink RX10 146 "FarTownModel" "x" "[I" ∈ TB := tb_6 (List.mem_of_getElem? (i := 6) rfl) rfl
theorem fl_RX10_146 : Fl RX10 146 10 61 1161 2 true := ⟨RX10, 84, co_X10, by decide, wd_1206, rfl, rfl, rfl⟩
theorem wd_1207 : Cond.fieldLink RX10 149 "FarTownModel" "y" "[I" ∈ TB := tb_6 (List.mem_of_getElem? (i := 7) rfl) rfl
theorem fl_RX10_149 : Fl RX10 149 10 62 1162 2 true := ⟨RX10, 84, co_X10, by decide, wd_1207, rfl, rfl, rfl⟩
theorem wd_1208 : Cond.fieldLink RX10 152 "FarTownModel" "facing" "[I" ∈ TB := tb_6 (List.mem_of_getElem? (i := 8) rfl) rfl
theorem fl_RX10_152 : Fl RX10 152 10 63 1163 2 true := ⟨RX10, 84, co_X10, by decide, wd_1208, rfl, rfl, rfl⟩
theorem wd_1209 : Cond.fieldLink RX10 155 "FarTownModel" "from" "[I" ∈ TB := tb_6 (List.mem_of_getElem? (i := 9) rfl) rfl
theorem fl_RX10_155 : Fl RX10 155 10 64 1164 2 true := ⟨RX10, 84, co_X10, by decide, wd_1209, rfl, rfl, rfl⟩
theorem wd_1216 : Cond.fieldLink RX10 158 "FarTownModel" "barA" "[I" ∈ TB := tb_6 (List.mem_of_getElem? (i := 16) rfl) rfl
theorem fl_RX10_158 : Fl RX10 158 10 71 1171 2 true := ⟨RX10, 84, co_X10, by decide, wd_1216, rfl, rfl, rfl⟩
theorem wd_1217 : Cond.fieldLink RX10 161 "FarTownModel" "barB" "[I" ∈ TB := tb_6 (List.mem_of_getElem? (i := 17) rfl) rfl
theorem fl_RX10_161 : Fl RX10 161 10 72 1172 2 true := ⟨RX10, 84, co_X10, by decide, wd_1217, rfl, rfl, rfl⟩
theorem wd_1218 : Cond.fieldLink RX10 164 "FarTownModel" "barR" "[I" ∈ TB := tb_6 (List.mem_of_getElem? (i := 18) rfl) rfl
theorem fl_RX10_164 : Fl RX10 164 10 73 1173 2 true := ⟨RX10, 84, co_X10, by decide, wd_1218, rfl, rfl, rfl⟩
theorem wd_1221 : Cond.fieldLink RX10 167 "FarTownModel" "planned" "[I" ∈ TB := tb_6 (List.mem_of_getElem? (i := 21) rfl) rfl
theorem fl_RX10_167 : Fl RX10 167 10 76 1176 2 true := ⟨RX10, 84, co_X10, by decide, wd_1221, rfl, rfl, rfl⟩
theorem wd_1226 : Cond.fieldLink RX10 170 "FarTownModel" "mayA" "[Z" ∈ TB := tb_6 (List.mem_of_getElem? (i := 26) rfl) rfl
theorem fl_RX10_170 : Fl RX10 170 10 81 1181 2 true := ⟨RX10, 84, co_X10, by decide, wd_1226, rfl, rfl, rfl⟩
theorem wd_1227 : Cond.fieldLink RX10 174 "FarTownModel" "mayB" "[Z" ∈ TB := tb_6 (List.mem_of_getElem? (i := 27) rfl) rfl
theorem fl_RX10_174 : Fl RX10 174 10 82 1182 2 true := ⟨RX10, 84, co_X10, by decide, wd_1227, rfl, rfl, rfl⟩
theorem wd_1228 : Cond.fieldLink RX10 177 "FarTownModel" "kept" "[Z" ∈ TB := tb_6 (List.mem_of_getElem? (i := 28) rfl) rfl
theorem fl_RX10_177 : Fl RX10 177 10 83 1183 2 true := ⟨RX10, 84, co_X10, by decide, wd_1228, rfl, rfl, rfl⟩
theorem wd_1145 : Cond.fieldLink RX10 180 "FarTownModel" "code" "I" ∈ TB := tb_5 (List.mem_of_getElem? (i := 185) rfl) rfl
theorem fl_RX10_180 : Fl RX10 180 10 0 1100 0 false := ⟨RX10, 84, co_X10, by decide, wd_1145, rfl, rfl, rfl⟩
theorem wd_1183 : Cond.fieldLink RX10 204 "FarTownModel" "ahead" "I" ∈ TB := tb_5 (List.mem_of_getElem? (i := 223) rfl) rfl
theorem fl_RX10_204 : Fl RX10 204 10 38 1138 0 false := ⟨RX10, 84, co_X10, by decide, wd_1183, rfl, rfl, rfl⟩
theorem wd_1184 : Cond.fieldLink RX10 207 "FarTownModel" "length" "I" ∈ TB := tb_5 (List.mem_of_getElem? (i := 224) rfl) rfl
theorem fl_RX10_207 : Fl RX10 207 10 39 1139 0 false := ⟨RX10, 84, co_X10, by decide, wd_1184, rfl, rfl, rfl⟩
theorem wd_1185 : Cond.fieldLink RX10 214 "FarTownModel" "begins" "I" ∈ TB := tb_5 (List.mem_of_getElem? (i := 225) rfl) rfl
theorem fl_RX10_214 : Fl RX10 214 10 40 1140 0 false := ⟨RX10, 84, co_X10, by decide, wd_1185, rfl, rfl, rfl⟩
theorem wd_1188 : Cond.fieldLink RX10 217 "FarTownModel" "word" "J" ∈ TB := tb_5 (List.mem_of_getElem? (i := 228) rfl) rfl
theorem fl_RX10_217 : Fl RX10 217 10 43 1143 1 false := ⟨RX10, 84, co_X10, by decide, wd_1188, rfl, rfl, rfl⟩
theorem wd_1186 : Cond.fieldLink RX10 221 "FarTownModel" "sort" "I" ∈ TB := tb_5 (List.mem_of_getElem? (i := 226) rfl) rfl
theorem fl_RX10_221 : Fl RX10 221 10 41 1141 0 false := ⟨RX10, 84, co_X10, by decide, wd_1186, rfl, rfl, rfl⟩
theorem wd_1187 : Cond.fieldLink RX10 224 "FarTownModel" "value" "I" ∈ TB := tb_5 (List.mem_of_getElem? (i := 227) rfl) rfl
theorem fl_RX10_224 : Fl RX10 224 10 42 1142 0 false := ⟨RX10, 84, co_X10, by decide, wd_1187, rfl, rfl, rfl⟩
theorem wd_1189 : Cond.fieldLink RX10 227 "FarTownModel" "wrongAt" "I" ∈ TB := tb_5 (List.mem_of_getElem? (i := 229) rfl) rfl
theorem fl_RX10_227 : Fl RX10 227 10 44 1144 0 false := ⟨RX10, 84, co_X10, by decide, wd_1189, rfl, rfl, rfl⟩
theorem wd_1190 : Cond.fieldLink RX10 230 "FarTownModel" "laterFault" "I" ∈ TB := tb_5 (List.mem_of_getElem? (i := 230) rfl) rfl
theorem fl_RX10_230 : Fl RX10 230 10 45 1145 0 false := ⟨RX10, 84, co_X10, by decide, wd_1190, rfl, rfl, rfl⟩
theorem wd_1191 : Cond.fieldLink RX10 233 "FarTownModel" "laterPlace" "I" ∈ TB := tb_5 (List.mem_of_getElem? (i := 231) rfl) rfl
theorem fl_RX10_233 : Fl RX10 233 10 46 1146 0 false := ⟨RX10, 84, co_X10, by decide, wd_1191, rfl, rfl, rfl⟩
theorem wd_1193 : Cond.fieldLink RX10 240 "FarTownModel" "reads" "I" ∈ TB := tb_5 (List.mem_of_getElem? (i := 233) rfl) rfl
theorem fl_RX10_240 : Fl RX10 240 10 48 1148 0 false := ⟨RX10, 84, co_X10, by decide, wd_1193, rfl, rfl, rfl⟩
theorem wd_1194 : Cond.fieldLink RX10 247 "FarTownModel" "good" "Z" ∈ TB := tb_5 (List.mem_of_getElem? (i := 234) rfl) rfl
theorem fl_RX10_247 : Fl RX10 247 10 49 1149 0 false := ⟨RX10, 84, co_X10, by decide, wd_1194, rfl, rfl, rfl⟩
theorem wd_1200 : Cond.fieldLink RX10 333 "FarTownModel" "newRules" "I" ∈ TB := tb_6 (List.mem_of_getElem? (i := 0) rfl) rfl
theorem fl_RX10_333 : Fl RX10 333 10 55 1155 0 false := ⟨RX10, 84, co_X10, by decide, wd_1200, rfl, rfl, rfl⟩
theorem wd_1203 : Cond.fieldLink RX10 347 "FarTownModel" "newSilent" "I" ∈ TB := tb_6 (List.mem_of_getElem? (i := 3) rfl) rfl
theorem fl_RX10_347 : Fl RX10 347 10 58 1158 0 false := ⟨RX10, 84, co_X10, by decide, wd_1203, rfl, rfl, rfl⟩
theorem wd_1201 : Cond.fieldLink RX10 354 "FarTownModel" "newHarm" "I" ∈ TB := tb_6 (List.mem_of_getElem? (i := 1) rfl) rfl
theorem fl_RX10_354 : Fl RX10 354 10 56 1156 0 false := ⟨RX10, 84, co_X10, by decide, wd_1201, rfl, rfl, rfl⟩
theorem wd_1202 : Cond.fieldLink RX10 357 "FarTownModel" "newLeaves" "I" ∈ TB := tb_6 (List.mem_of_getElem? (i := 2) rfl) rfl
theorem fl_RX10_357 : Fl RX10 357 10 57 1157 0 false := ⟨RX10, 84, co_X10, by decide, wd_1202, rfl, rfl, rfl⟩
theorem wd_1211 : Cond.fieldLink RX10 375 "FarTownModel" "town0" "I" ∈ TB := tb_6 (List.mem_of_getElem? (i := 11) rfl) rfl
theorem fl_RX10_375 : Fl RX10 375 10 66 1166 0 false := ⟨RX10, 84, co_X10, by decide, wd_1211, rfl, rfl, rfl⟩
theorem wd_1212 : Cond.fieldLink RX10 378 "FarTownModel" "day0" "I" ∈ TB := tb_6 (List.mem_of_getElem? (i := 12) rfl) rfl
theorem fl_RX10_378 : Fl RX10 378 10 67 1167 0 false := ⟨RX10, 84, co_X10, by decide, wd_1212, rfl, rfl, rfl⟩
theorem wd_1210 : Cond.fieldLink RX10 381 "FarTownModel" "standing" "I" ∈ TB := tb_6 (List.mem_of_getElem? (i := 10) rfl) rfl
theorem fl_RX10_381 : Fl RX10 381 10 65 1165 0 false := ⟨RX10, 84, co_X10, by decide, wd_1210, rfl, rfl, rfl⟩
theorem wd_1213 : Cond.fieldLink RX10 384 "FarTownModel" "fences" "I" ∈ TB := tb_6 (List.mem_of_getElem? (i := 13) rfl) rfl
theorem fl_RX10_384 : Fl RX10 384 10 68 1168 0 false := ⟨RX10, 84, co_X10, by decide, wd_1213, rfl, rfl, rfl⟩
theorem wd_1214 : Cond.fieldLink RX10 387 "FarTownModel" "onlyHour" "I" ∈ TB := tb_6 (List.mem_of_getElem? (i := 14) rfl) rfl
theorem fl_RX10_387 : Fl RX10 387 10 69 1169 0 false := ⟨RX10, 84, co_X10, by decide, wd_1214, rfl, rfl, rfl⟩
theorem wd_1215 : Cond.fieldLink RX10 390 "FarTownModel" "wider" "I" ∈ TB := tb_6 (List.mem_of_getElem? (i := 15) rfl) rfl
theorem fl_RX10_390 : Fl RX10 390 10 70 1170 0 false := ⟨RX10, 84, co_X10, by decide, wd_1215, rfl, rfl, rfl⟩
theorem wd_1219 : Cond.fieldLink RX10 443 "FarTownModel" "barMany" "I" ∈ TB := tb_6 (List.mem_of_getElem? (i := 19) rfl) rfl
theorem fl_RX10_443 : Fl RX10 443 10 74 1174 0 false := ⟨RX10, 84, co_X10, by decide, wd_1219, rfl, rfl, rfl⟩
theorem wd_1220 : Cond.fieldLink RX10 484 "FarTownModel" "spotFound" "I" ∈ TB := tb_6 (List.mem_of_getElem? (i := 20) rfl) rfl
theorem fl_RX10_484 : Fl RX10 484 10 75 1175 0 false := ⟨RX10, 84, co_X10, by decide, wd_1220, rfl, rfl, rfl⟩
theorem wd_1222 : Cond.fieldLink RX10 520 "FarTownModel" "movedA" "I" ∈ TB := tb_6 (List.mem_of_getElem? (i := 22) rfl) rfl
theorem fl_RX10_520 : Fl RX10 520 10 77 1177 0 false := ⟨RX10, 84, co_X10, by decide, wd_1222, rfl, rfl, rfl⟩
theorem wd_1223 : Cond.fieldLink RX10 523 "FarTownModel" "movedB" "I" ∈ TB := tb_6 (List.mem_of_getElem? (i := 23) rfl) rfl
theorem fl_RX10_523 : Fl RX10 523 10 78 1178 0 false := ⟨RX10, 84, co_X10, by decide, wd_1223, rfl, rfl, rfl⟩
theorem wd_1224 : Cond.fieldLink RX10 526 "FarTownModel" "movedToA" "I" ∈ TB := tb_6 (List.mem_of_getElem? (i := 24) rfl) rfl
theorem fl_RX10_526 : Fl RX10 526 10 79 1179 0 false := ⟨RX10, 84, co_X10, by decide, wd_1224, rfl, rfl, rfl⟩
theorem wd_1225 : Cond.fieldLink RX10 529 "FarTownModel" "movedToB" "I" ∈ TB := tb_6 (List.mem_of_getElem? (i := 25) rfl) rfl
theorem fl_RX10_529 : Fl RX10 529 10 80 1180 0 false := ⟨RX10, 84, co_X10, by decide, wd_1225, rfl, rfl, rfl⟩
theorem wd_1852 : Cond.fieldLink RJ0 9 RJ0 "value" "[B" ∈ TB := tb_8 (List.mem_of_getElem? (i := 172) rfl) rfl
theorem fj_RJ0_9 : Cond.fieldLink RJ0 9 RJ0 "value" "[B" ∈ TB := wd_1852
theorem wd_1853 : Cond.fieldLink RJ0 15 RJ0 "coder" "B" ∈ TB := tb_8 (List.mem_of_getElem? (i := 173) rfl) rfl
theorem fj_RJ0_15 : Cond.fieldLink RJ0 15 RJ0 "coder" "B" ∈ TB := wd_1853
theorem wd_474 : Cond.fieldLink RJ0 38 RJ0 "COMPACT_STRINGS" "Z" ∈ TB := tb_2 (List.mem_of_getElem? (i := 234) rfl) rfl
theorem fj_RJ0_38 : Cond.fieldLink RJ0 38 RJ0 "COMPACT_STRINGS" "Z" ∈ TB := wd_474
theorem wd_490 : Cond.fieldLink RJ0 1053 RJ3 "SIOOBE_FORMATTER" "Ljava/util/function/BiFunction;" ∈ TB := tb_3 (List.mem_of_getElem? (i := 10) rfl) rfl
theorem fj_RJ0_1053 : Cond.fieldLink RJ0 1053 RJ3 "SIOOBE_FORMATTER" "Ljava/util/function/BiFunction;" ∈ TB := wd_490
theorem wd_508 : Cond.fieldLink RJ2 44 RJ2 "$assertionsDisabled" "Z" ∈ TB := tb_3 (List.mem_of_getElem? (i := 28) rfl) rfl
theorem fj_RJ2_44 : Cond.fieldLink RJ2 44 RJ2 "$assertionsDisabled" "Z" ∈ TB := wd_508
theorem wd_510 : Cond.fieldLink RJ2 59 RJ2 "HI_BYTE_SHIFT" "I" ∈ TB := tb_3 (List.mem_of_getElem? (i := 30) rfl) rfl
theorem fj_RJ2_59 : Cond.fieldLink RJ2 59 RJ2 "HI_BYTE_SHIFT" "I" ∈ TB := wd_510
theorem wd_512 : Cond.fieldLink RJ2 63 RJ2 "LO_BYTE_SHIFT" "I" ∈ TB := tb_3 (List.mem_of_getElem? (i := 32) rfl) rfl
theorem fj_RJ2_63 : Cond.fieldLink RJ2 63 RJ2 "LO_BYTE_SHIFT" "I" ∈ TB := wd_512
theorem wd_25 : Cond.methodLink RX9 1 Lib.objectInit ∈ TB := tb_1 (List.mem_of_getElem? (i := 25) rfl) rfl
theorem wd_26 : Cond.instanceMethod Lib.objectInit ∈ TB := tb_1 (List.mem_of_getElem? (i := 26) rfl) rfl
theorem wd_27 : Cond.code Lib.objectInit ⟨#[0xb1]⟩ 1 none ∈ TB := tb_1 (List.mem_of_getElem? (i := 27) rfl) rfl
theorem mo_RX9_1 : Cond.methodLink RX9 1 Lib.objectInit ∈ TB ∧ Cond.instanceMethod Lib.objectInit ∈ TB ∧ Cond.code Lib.objectInit ⟨#[0xb1]⟩ 1 none ∈ TB := ⟨wd_25, wd_26, wd_27⟩
theorem wd_30 : Cond.methodLink RX9 9 yX7_init ∈ TB := tb_1 (List.mem_of_getElem? (i := 30) rfl) rfl
theorem wd_32 : Cond.code yX7_init cX7_init 2 none ∈ TB := tb_1 (List.mem_of_getElem? (i := 32) rfl) rfl
theorem wd_2 : Cond.initialized yX7_init.cls ∈ TB := tb_1 (List.mem_of_getElem? (i := 2) rfl) rfl
theorem yd_X7_init : yX7_init.cls ≠ "java/lang/invoke/MethodHandle" ∧ yX7_init.cls ≠ "java/lang/invoke/VarHandle" ∧ (parseMethodDescriptor yX7_init.desc).map (fun d => d.parameters.length) = some 0 := by decide +kernel
theorem wd_31 : Cond.instanceMethod yX7_init ∈ TB := tb_1 (List.mem_of_getElem? (i := 31) rfl) rfl
theorem mv_RX9_9 : Mi RX9 9 yX7_init cX7_init 2 0 := ⟨wd_30, wd_31, wd_2, wd_32, rfl, (yd_X7_init).1, (yd_X7_init).2.1, (yd_X7_init).2.2⟩
theorem wd_203 : Cond.methodLink RX9 22 yX4_init ∈ TB := tb_1 (List.mem_of_getElem? (i := 203) rfl) rfl
theorem wd_205 : Cond.code yX4_init cX4_init 1 none ∈ TB := tb_1 (List.mem_of_getElem? (i := 205) rfl) rfl
theorem wd_6 : Cond.initialized yX4_init.cls ∈ TB := tb_1 (List.mem_of_getElem? (i := 6) rfl) rfl
theorem yd_X4_init : yX4_init.cls ≠ "java/lang/invoke/MethodHandle" ∧ yX4_init.cls ≠ "java/lang/invoke/VarHandle" ∧ (parseMethodDescriptor yX4_init.desc).map (fun d => d.parameters.length) = some 0 := by decide +kernel
theorem wd_204 : Cond.instanceMethod yX4_init ∈ TB := tb_1 (List.mem_of_getElem? (i := 204) rfl) rfl
theorem mv_RX9_22 : Mi RX9 22 yX4_init cX4_init 1 0 := ⟨wd_203, wd_204, wd_6, wd_205, rfl, (yd_X4_init).1, (yd_X4_init).2.1, (yd_X4_init).2.2⟩
theorem wd_254 : Cond.methodLink RX9 29 yX5_init ∈ TB := tb_2 (List.mem_of_getElem? (i := 14) rfl) rfl
theorem wd_256 : Cond.code yX5_init cX5_init 2 none ∈ TB := tb_2 (List.mem_of_getElem? (i := 16) rfl) rfl
theorem wd_7 : Cond.initialized yX5_init.cls ∈ TB := tb_1 (List.mem_of_getElem? (i := 7) rfl) rfl
theorem yd_X5_init : yX5_init.cls ≠ "java/lang/invoke/MethodHandle" ∧ yX5_init.cls ≠ "java/lang/invoke/VarHandle" ∧ (parseMethodDescriptor yX5_init.desc).map (fun d => d.parameters.length) = some 0 := by decide +kernel
theorem wd_255 : Cond.instanceMethod yX5_init ∈ TB := tb_2 (List.mem_of_getElem? (i := 15) rfl) rfl
theorem mv_RX9_29 : Mi RX9 29 yX5_init cX5_init 2 0 := ⟨wd_254, wd_255, wd_7, wd_256, rfl, (yd_X5_init).1, (yd_X5_init).2.1, (yd_X5_init).2.2⟩
theorem wd_329 : Cond.methodLink RX9 36 yX1_init ∈ TB := tb_2 (List.mem_of_getElem? (i := 89) rfl) rfl
theorem wd_331 : Cond.code yX1_init cX1_init 2 none ∈ TB := tb_2 (List.mem_of_getElem? (i := 91) rfl) rfl
theorem wd_9 : Cond.initialized yX1_init.cls ∈ TB := tb_1 (List.mem_of_getElem? (i := 9) rfl) rfl
theorem yd_X1_init : yX1_init.cls ≠ "java/lang/invoke/MethodHandle" ∧ yX1_init.cls ≠ "java/lang/invoke/VarHandle" ∧ (parseMethodDescriptor yX1_init.desc).map (fun d => d.parameters.length) = some 1 := by decide +kernel
theorem wd_330 : Cond.instanceMethod yX1_init ∈ TB := tb_2 (List.mem_of_getElem? (i := 90) rfl) rfl
theorem mv_RX9_36 : Mi RX9 36 yX1_init cX1_init 2 1 := ⟨wd_329, wd_330, wd_9, wd_331, rfl, (yd_X1_init).1, (yd_X1_init).2.1, (yd_X1_init).2.2⟩
theorem wd_350 : Cond.methodLink RX9 45 yX3_init ∈ TB := tb_2 (List.mem_of_getElem? (i := 110) rfl) rfl
theorem wd_352 : Cond.code yX3_init cX3_init 3 none ∈ TB := tb_2 (List.mem_of_getElem? (i := 112) rfl) rfl
theorem wd_10 : Cond.initialized yX3_init.cls ∈ TB := tb_1 (List.mem_of_getElem? (i := 10) rfl) rfl
theorem yd_X3_init : yX3_init.cls ≠ "java/lang/invoke/MethodHandle" ∧ yX3_init.cls ≠ "java/lang/invoke/VarHandle" ∧ (parseMethodDescriptor yX3_init.desc).map (fun d => d.parameters.length) = some 1 := by decide +kernel
theorem wd_351 : Cond.instanceMethod yX3_init ∈ TB := tb_2 (List.mem_of_getElem? (i := 111) rfl) rfl
theorem mv_RX9_45 : Mi RX9 45 yX3_init cX3_init 3 1 := ⟨wd_350, wd_351, wd_10, wd_352, rfl, (yd_X3_init).1, (yd_X3_init).2.1, (yd_X3_init).2.2⟩
theorem wd_397 : Cond.methodLink RX9 54 yX7_putBytes ∈ TB := tb_2 (List.mem_of_getElem? (i := 157) rfl) rfl
theorem wd_400 : Cond.code yX7_putBytes cX7_putBytes 3 none ∈ TB := tb_2 (List.mem_of_getElem? (i := 160) rfl) rfl
theorem yd_X7_putBytes : yX7_putBytes.cls ≠ "java/lang/invoke/MethodHandle" ∧ yX7_putBytes.cls ≠ "java/lang/invoke/VarHandle" ∧ (parseMethodDescriptor yX7_putBytes.desc).map (fun d => d.parameters.length) = some 1 := by decide +kernel
theorem wd_398 : Cond.instanceMethod yX7_putBytes ∈ TB := tb_2 (List.mem_of_getElem? (i := 158) rfl) rfl
theorem wd_399 : Cond.selects yX7_putBytes.cls yX7_putBytes yX7_putBytes ∈ TB := tb_2 (List.mem_of_getElem? (i := 159) rfl) rfl
theorem mv_RX9_54 : Mv RX9 54 yX7_putBytes cX7_putBytes 3 none 1 := ⟨wd_397, wd_398, wd_399, wd_2, wd_400, (yd_X7_putBytes).1, (yd_X7_putBytes).2.1, (yd_X7_putBytes).2.2⟩
theorem wd_409 : Cond.methodLink RX9 58 yX7_takeTape ∈ TB := tb_2 (List.mem_of_getElem? (i := 169) rfl) rfl
theorem wd_412 : Cond.code yX7_takeTape cX7_takeTape 2 (some .int) ∈ TB := tb_2 (List.mem_of_getElem? (i := 172) rfl) rfl
theorem yd_X7_takeTape : yX7_takeTape.cls ≠ "java/lang/invoke/MethodHandle" ∧ yX7_takeTape.cls ≠ "java/lang/invoke/VarHandle" ∧ (parseMethodDescriptor yX7_takeTape.desc).map (fun d => d.parameters.length) = some 0 := by decide +kernel
theorem wd_410 : Cond.instanceMethod yX7_takeTape ∈ TB := tb_2 (List.mem_of_getElem? (i := 170) rfl) rfl
theorem wd_411 : Cond.selects yX7_takeTape.cls yX7_takeTape yX7_takeTape ∈ TB := tb_2 (List.mem_of_getElem? (i := 171) rfl) rfl
theorem mv_RX9_58 : Mv RX9 58 yX7_takeTape cX7_takeTape 2 (some .int) 0 := ⟨wd_409, wd_410, wd_411, wd_2, wd_412, (yd_X7_takeTape).1, (yd_X7_takeTape).2.1, (yd_X7_takeTape).2.2⟩
theorem wd_417 : Cond.methodLink RX9 65 yX9_seatFor ∈ TB := tb_2 (List.mem_of_getElem? (i := 177) rfl) rfl
theorem wd_419 : Cond.code yX9_seatFor cX9_seatFor 2 (some .int) ∈ TB := tb_2 (List.mem_of_getElem? (i := 179) rfl) rfl
theorem wd_1 : Cond.initialized yX9_seatFor.cls ∈ TB := tb_1 (List.mem_of_getElem? (i := 1) rfl) rfl
theorem yd_X9_seatFor : yX9_seatFor.cls ≠ "java/lang/invoke/MethodHandle" ∧ yX9_seatFor.cls ≠ "java/lang/invoke/VarHandle" ∧ (parseMethodDescriptor yX9_seatFor.desc).map (fun d => d.parameters.length) = some 2 := by decide +kernel
theorem wd_418 : Cond.static yX9_seatFor ∈ TB := tb_2 (List.mem_of_getElem? (i := 178) rfl) rfl
theorem mv_RX9_65 : Ms RX9 65 yX9_seatFor cX9_seatFor 2 (some .int) 2 := ⟨wd_417, wd_418, wd_1, wd_419, (yd_X9_seatFor).1, (yd_X9_seatFor).2.1, (yd_X9_seatFor).2.2⟩
theorem wd_420 : Cond.methodLink RX9 69 yX7_townSeat ∈ TB := tb_2 (List.mem_of_getElem? (i := 180) rfl) rfl
theorem wd_423 : Cond.code yX7_townSeat cX7_townSeat 2 (some (.object "FarTown$Town")) ∈ TB := tb_2 (List.mem_of_getElem? (i := 183) rfl) rfl
theorem yd_X7_townSeat : yX7_townSeat.cls ≠ "java/lang/invoke/MethodHandle" ∧ yX7_townSeat.cls ≠ "java/lang/invoke/VarHandle" ∧ (parseMethodDescriptor yX7_townSeat.desc).map (fun d => d.parameters.length) = some 1 := by decide +kernel
theorem wd_421 : Cond.instanceMethod yX7_townSeat ∈ TB := tb_2 (List.mem_of_getElem? (i := 181) rfl) rfl
theorem wd_422 : Cond.selects yX7_townSeat.cls yX7_townSeat yX7_townSeat ∈ TB := tb_2 (List.mem_of_getElem? (i := 182) rfl) rfl
theorem mv_RX9_69 : Mv RX9 69 yX7_townSeat cX7_townSeat 2 (some (.object "FarTown$Town")) 1 := ⟨wd_420, wd_421, wd_422, wd_2, wd_423, (yd_X7_townSeat).1, (yd_X7_townSeat).2.1, (yd_X7_townSeat).2.2⟩
theorem wd_424 : Cond.methodLink RX9 77 yX4_readTown ∈ TB := tb_2 (List.mem_of_getElem? (i := 184) rfl) rfl
theorem wd_427 : Cond.code yX4_readTown cX4_readTown 4 (some .boolean) ∈ TB := tb_2 (List.mem_of_getElem? (i := 187) rfl) rfl
theorem yd_X4_readTown : yX4_readTown.cls ≠ "java/lang/invoke/MethodHandle" ∧ yX4_readTown.cls ≠ "java/lang/invoke/VarHandle" ∧ (parseMethodDescriptor yX4_readTown.desc).map (fun d => d.parameters.length) = some 2 := by decide +kernel
theorem wd_425 : Cond.instanceMethod yX4_readTown ∈ TB := tb_2 (List.mem_of_getElem? (i := 185) rfl) rfl
theorem wd_426 : Cond.selects yX4_readTown.cls yX4_readTown yX4_readTown ∈ TB := tb_2 (List.mem_of_getElem? (i := 186) rfl) rfl
theorem mv_RX9_77 : Mv RX9 77 yX4_readTown cX4_readTown 4 (some .boolean) 2 := ⟨wd_424, wd_425, wd_426, wd_6, wd_427, (yd_X4_readTown).1, (yd_X4_readTown).2.1, (yd_X4_readTown).2.2⟩
theorem wd_631 : Cond.methodLink RX9 87 yX7_setFault ∈ TB := tb_3 (List.mem_of_getElem? (i := 151) rfl) rfl
theorem wd_416 : Cond.code yX7_setFault cX7_setFault 3 none ∈ TB := tb_2 (List.mem_of_getElem? (i := 176) rfl) rfl
theorem yd_X7_setFault : yX7_setFault.cls ≠ "java/lang/invoke/MethodHandle" ∧ yX7_setFault.cls ≠ "java/lang/invoke/VarHandle" ∧ (parseMethodDescriptor yX7_setFault.desc).map (fun d => d.parameters.length) = some 2 := by decide +kernel
theorem wd_414 : Cond.instanceMethod yX7_setFault ∈ TB := tb_2 (List.mem_of_getElem? (i := 174) rfl) rfl
theorem wd_415 : Cond.selects yX7_setFault.cls yX7_setFault yX7_setFault ∈ TB := tb_2 (List.mem_of_getElem? (i := 175) rfl) rfl
theorem mv_RX9_87 : Mv RX9 87 yX7_setFault cX7_setFault 3 none 2 := ⟨wd_631, wd_414, wd_415, wd_2, wd_416, (yd_X7_setFault).1, (yd_X7_setFault).2.1, (yd_X7_setFault).2.2⟩
theorem wd_632 : Cond.methodLink RX9 95 yX8_take ∈ TB := tb_3 (List.mem_of_getElem? (i := 152) rfl) rfl
theorem wd_635 : Cond.code yX8_take cX8_take 3 none ∈ TB := tb_3 (List.mem_of_getElem? (i := 155) rfl) rfl
theorem wd_3 : Cond.initialized yX8_take.cls ∈ TB := tb_1 (List.mem_of_getElem? (i := 3) rfl) rfl
theorem yd_X8_take : yX8_take.cls ≠ "java/lang/invoke/MethodHandle" ∧ yX8_take.cls ≠ "java/lang/invoke/VarHandle" ∧ (parseMethodDescriptor yX8_take.desc).map (fun d => d.parameters.length) = some 1 := by decide +kernel
theorem wd_633 : Cond.instanceMethod yX8_take ∈ TB := tb_3 (List.mem_of_getElem? (i := 153) rfl) rfl
theorem wd_634 : Cond.selects yX8_take.cls yX8_take yX8_take ∈ TB := tb_3 (List.mem_of_getElem? (i := 154) rfl) rfl
theorem mv_RX9_95 : Mv RX9 95 yX8_take cX8_take 3 none 1 := ⟨wd_632, wd_633, wd_634, wd_3, wd_635, (yd_X8_take).1, (yd_X8_take).2.1, (yd_X8_take).2.2⟩
theorem wd_647 : Cond.methodLink RX9 104 yX7_lawSeat ∈ TB := tb_3 (List.mem_of_getElem? (i := 167) rfl) rfl
theorem wd_650 : Cond.code yX7_lawSeat cX7_lawSeat 2 (some (.object "FarTown$Law")) ∈ TB := tb_3 (List.mem_of_getElem? (i := 170) rfl) rfl
theorem yd_X7_lawSeat : yX7_lawSeat.cls ≠ "java/lang/invoke/MethodHandle" ∧ yX7_lawSeat.cls ≠ "java/lang/invoke/VarHandle" ∧ (parseMethodDescriptor yX7_lawSeat.desc).map (fun d => d.parameters.length) = some 1 := by decide +kernel
theorem wd_648 : Cond.instanceMethod yX7_lawSeat ∈ TB := tb_3 (List.mem_of_getElem? (i := 168) rfl) rfl
theorem wd_649 : Cond.selects yX7_lawSeat.cls yX7_lawSeat yX7_lawSeat ∈ TB := tb_3 (List.mem_of_getElem? (i := 169) rfl) rfl
theorem mv_RX9_104 : Mv RX9 104 yX7_lawSeat cX7_lawSeat 2 (some (.object "FarTown$Law")) 1 := ⟨wd_647, wd_648, wd_649, wd_2, wd_650, (yd_X7_lawSeat).1, (yd_X7_lawSeat).2.1, (yd_X7_lawSeat).2.2⟩
theorem wd_651 : Cond.methodLink RX9 108 yX4_readLaw ∈ TB := tb_3 (List.mem_of_getElem? (i := 171) rfl) rfl
theorem wd_654 : Cond.code yX4_readLaw cX4_readLaw 4 (some .boolean) ∈ TB := tb_3 (List.mem_of_getElem? (i := 174) rfl) rfl
theorem yd_X4_readLaw : yX4_readLaw.cls ≠ "java/lang/invoke/MethodHandle" ∧ yX4_readLaw.cls ≠ "java/lang/invoke/VarHandle" ∧ (parseMethodDescriptor yX4_readLaw.desc).map (fun d => d.parameters.length) = some 2 := by decide +kernel
theorem wd_652 : Cond.instanceMethod yX4_readLaw ∈ TB := tb_3 (List.mem_of_getElem? (i := 172) rfl) rfl
theorem wd_653 : Cond.selects yX4_readLaw.cls yX4_readLaw yX4_readLaw ∈ TB := tb_3 (List.mem_of_getElem? (i := 173) rfl) rfl
theorem mv_RX9_108 : Mv RX9 108 yX4_readLaw cX4_readLaw 4 (some .boolean) 2 := ⟨wd_651, wd_652, wd_653, wd_6, wd_654, (yd_X4_readLaw).1, (yd_X4_readLaw).2.1, (yd_X4_readLaw).2.2⟩
theorem wd_681 : Cond.methodLink RX9 115 yX2_take ∈ TB := tb_3 (List.mem_of_getElem? (i := 201) rfl) rfl
theorem wd_684 : Cond.code yX2_take cX2_take 2 none ∈ TB := tb_3 (List.mem_of_getElem? (i := 204) rfl) rfl
theorem wd_5 : Cond.initialized yX2_take.cls ∈ TB := tb_1 (List.mem_of_getElem? (i := 5) rfl) rfl
theorem yd_X2_take : yX2_take.cls ≠ "java/lang/invoke/MethodHandle" ∧ yX2_take.cls ≠ "java/lang/invoke/VarHandle" ∧ (parseMethodDescriptor yX2_take.desc).map (fun d => d.parameters.length) = some 1 := by decide +kernel
theorem wd_682 : Cond.instanceMethod yX2_take ∈ TB := tb_3 (List.mem_of_getElem? (i := 202) rfl) rfl
theorem wd_683 : Cond.selects yX2_take.cls yX2_take yX2_take ∈ TB := tb_3 (List.mem_of_getElem? (i := 203) rfl) rfl
theorem mv_RX9_115 : Mv RX9 115 yX2_take cX2_take 2 none 1 := ⟨wd_681, wd_682, wd_683, wd_5, wd_684, (yd_X2_take).1, (yd_X2_take).2.1, (yd_X2_take).2.2⟩
theorem wd_694 : Cond.methodLink RX9 122 yX7_townAt ∈ TB := tb_3 (List.mem_of_getElem? (i := 214) rfl) rfl
theorem wd_697 : Cond.code yX7_townAt cX7_townAt 2 (some (.object "FarTown$Town")) ∈ TB := tb_3 (List.mem_of_getElem? (i := 217) rfl) rfl
theorem yd_X7_townAt : yX7_townAt.cls ≠ "java/lang/invoke/MethodHandle" ∧ yX7_townAt.cls ≠ "java/lang/invoke/VarHandle" ∧ (parseMethodDescriptor yX7_townAt.desc).map (fun d => d.parameters.length) = some 1 := by decide +kernel
theorem wd_695 : Cond.instanceMethod yX7_townAt ∈ TB := tb_3 (List.mem_of_getElem? (i := 215) rfl) rfl
theorem wd_696 : Cond.selects yX7_townAt.cls yX7_townAt yX7_townAt ∈ TB := tb_3 (List.mem_of_getElem? (i := 216) rfl) rfl
theorem mv_RX9_122 : Mv RX9 122 yX7_townAt cX7_townAt 2 (some (.object "FarTown$Town")) 1 := ⟨wd_694, wd_695, wd_696, wd_2, wd_697, (yd_X7_townAt).1, (yd_X7_townAt).2.1, (yd_X7_townAt).2.2⟩
theorem wd_699 : Cond.methodLink RX9 125 yX8_windIn ∈ TB := tb_3 (List.mem_of_getElem? (i := 219) rfl) rfl
theorem wd_702 : Cond.code yX8_windIn cX8_windIn 2 (some .int) ∈ TB := tb_3 (List.mem_of_getElem? (i := 222) rfl) rfl
theorem yd_X8_windIn : yX8_windIn.cls ≠ "java/lang/invoke/MethodHandle" ∧ yX8_windIn.cls ≠ "java/lang/invoke/VarHandle" ∧ (parseMethodDescriptor yX8_windIn.desc).map (fun d => d.parameters.length) = some 1 := by decide +kernel
theorem wd_700 : Cond.instanceMethod yX8_windIn ∈ TB := tb_3 (List.mem_of_getElem? (i := 220) rfl) rfl
theorem wd_701 : Cond.selects yX8_windIn.cls yX8_windIn yX8_windIn ∈ TB := tb_3 (List.mem_of_getElem? (i := 221) rfl) rfl
theorem mv_RX9_125 : Mv RX9 125 yX8_windIn cX8_windIn 2 (some .int) 1 := ⟨wd_699, wd_700, wd_701, wd_3, wd_702, (yd_X8_windIn).1, (yd_X8_windIn).2.1, (yd_X8_windIn).2.2⟩
theorem wd_703 : Cond.methodLink RX9 129 yX8_growsBy ∈ TB := tb_3 (List.mem_of_getElem? (i := 223) rfl) rfl
theorem wd_706 : Cond.code yX8_growsBy cX8_growsBy 2 (some .int) ∈ TB := tb_3 (List.mem_of_getElem? (i := 226) rfl) rfl
theorem yd_X8_growsBy : yX8_growsBy.cls ≠ "java/lang/invoke/MethodHandle" ∧ yX8_growsBy.cls ≠ "java/lang/invoke/VarHandle" ∧ (parseMethodDescriptor yX8_growsBy.desc).map (fun d => d.parameters.length) = some 1 := by decide +kernel
theorem wd_704 : Cond.instanceMethod yX8_growsBy ∈ TB := tb_3 (List.mem_of_getElem? (i := 224) rfl) rfl
theorem wd_705 : Cond.selects yX8_growsBy.cls yX8_growsBy yX8_growsBy ∈ TB := tb_3 (List.mem_of_getElem? (i := 225) rfl) rfl
theorem mv_RX9_129 : Mv RX9 129 yX8_growsBy cX8_growsBy 2 (some .int) 1 := ⟨wd_703, wd_704, wd_705, wd_3, wd_706, (yd_X8_growsBy).1, (yd_X8_growsBy).2.1, (yd_X8_growsBy).2.2⟩
theorem wd_711 : Cond.methodLink RX9 168 yX8_hasThing ∈ TB := tb_3 (List.mem_of_getElem? (i := 231) rfl) rfl
theorem wd_714 : Cond.code yX8_hasThing cX8_hasThing 2 (some .boolean) ∈ TB := tb_3 (List.mem_of_getElem? (i := 234) rfl) rfl
theorem yd_X8_hasThing : yX8_hasThing.cls ≠ "java/lang/invoke/MethodHandle" ∧ yX8_hasThing.cls ≠ "java/lang/invoke/VarHandle" ∧ (parseMethodDescriptor yX8_hasThing.desc).map (fun d => d.parameters.length) = some 1 := by decide +kernel
theorem wd_712 : Cond.instanceMethod yX8_hasThing ∈ TB := tb_3 (List.mem_of_getElem? (i := 232) rfl) rfl
theorem wd_713 : Cond.selects yX8_hasThing.cls yX8_hasThing yX8_hasThing ∈ TB := tb_3 (List.mem_of_getElem? (i := 233) rfl) rfl
theorem mv_RX9_168 : Mv RX9 168 yX8_hasThing cX8_hasThing 2 (some .boolean) 1 := ⟨wd_711, wd_712, wd_713, wd_3, wd_714, (yd_X8_hasThing).1, (yd_X8_hasThing).2.1, (yd_X8_hasThing).2.2⟩
theorem wd_715 : Cond.methodLink RX9 172 yX6_cell ∈ TB := tb_3 (List.mem_of_getElem? (i := 235) rfl) rfl
theorem wd_567 : Cond.code yX6_cell cX6_cell 4 (some .int) ∈ TB := tb_3 (List.mem_of_getElem? (i := 87) rfl) rfl
theorem wd_4 : Cond.initialized yX6_cell.cls ∈ TB := tb_1 (List.mem_of_getElem? (i := 4) rfl) rfl
theorem yd_X6_cell : yX6_cell.cls ≠ "java/lang/invoke/MethodHandle" ∧ yX6_cell.cls ≠ "java/lang/invoke/VarHandle" ∧ (parseMethodDescriptor yX6_cell.desc).map (fun d => d.parameters.length) = some 2 := by decide +kernel
theorem wd_565 : Cond.instanceMethod yX6_cell ∈ TB := tb_3 (List.mem_of_getElem? (i := 85) rfl) rfl
theorem wd_566 : Cond.selects yX6_cell.cls yX6_cell yX6_cell ∈ TB := tb_3 (List.mem_of_getElem? (i := 86) rfl) rfl
theorem mv_RX9_172 : Mv RX9 172 yX6_cell cX6_cell 4 (some .int) 2 := ⟨wd_715, wd_565, wd_566, wd_4, wd_567, (yd_X6_cell).1, (yd_X6_cell).2.1, (yd_X6_cell).2.2⟩
theorem wd_720 : Cond.methodLink RX9 175 yX7_lawAt ∈ TB := tb_4 (List.mem_of_getElem? (i := 0) rfl) rfl
theorem wd_723 : Cond.code yX7_lawAt cX7_lawAt 2 (some (.object "FarTown$Law")) ∈ TB := tb_4 (List.mem_of_getElem? (i := 3) rfl) rfl
theorem yd_X7_lawAt : yX7_lawAt.cls ≠ "java/lang/invoke/MethodHandle" ∧ yX7_lawAt.cls ≠ "java/lang/invoke/VarHandle" ∧ (parseMethodDescriptor yX7_lawAt.desc).map (fun d => d.parameters.length) = some 1 := by decide +kernel
theorem wd_721 : Cond.instanceMethod yX7_lawAt ∈ TB := tb_4 (List.mem_of_getElem? (i := 1) rfl) rfl
theorem wd_722 : Cond.selects yX7_lawAt.cls yX7_lawAt yX7_lawAt ∈ TB := tb_4 (List.mem_of_getElem? (i := 2) rfl) rfl
theorem mv_RX9_175 : Mv RX9 175 yX7_lawAt cX7_lawAt 2 (some (.object "FarTown$Law")) 1 := ⟨wd_720, wd_721, wd_722, wd_2, wd_723, (yd_X7_lawAt).1, (yd_X7_lawAt).2.1, (yd_X7_lawAt).2.2⟩
theorem wd_729 : Cond.methodLink RX9 191 yX9_isKind ∈ TB := tb_4 (List.mem_of_getElem? (i := 9) rfl) rfl
theorem wd_731 : Cond.code yX9_isKind cX9_isKind 1 (some .boolean) ∈ TB := tb_4 (List.mem_of_getElem? (i := 11) rfl) rfl
theorem yd_X9_isKind : yX9_isKind.cls ≠ "java/lang/invoke/MethodHandle" ∧ yX9_isKind.cls ≠ "java/lang/invoke/VarHandle" ∧ (parseMethodDescriptor yX9_isKind.desc).map (fun d => d.parameters.length) = some 1 := by decide +kernel
theorem wd_730 : Cond.static yX9_isKind ∈ TB := tb_4 (List.mem_of_getElem? (i := 10) rfl) rfl
theorem mv_RX9_191 : Ms RX9 191 yX9_isKind cX9_isKind 1 (some .boolean) 1 := ⟨wd_729, wd_730, wd_1, wd_731, (yd_X9_isKind).1, (yd_X9_isKind).2.1, (yd_X9_isKind).2.2⟩
theorem wd_732 : Cond.methodLink RX9 194 yX8_hasPoint ∈ TB := tb_4 (List.mem_of_getElem? (i := 12) rfl) rfl
theorem wd_735 : Cond.code yX8_hasPoint cX8_hasPoint 3 (some .boolean) ∈ TB := tb_4 (List.mem_of_getElem? (i := 15) rfl) rfl
theorem yd_X8_hasPoint : yX8_hasPoint.cls ≠ "java/lang/invoke/MethodHandle" ∧ yX8_hasPoint.cls ≠ "java/lang/invoke/VarHandle" ∧ (parseMethodDescriptor yX8_hasPoint.desc).map (fun d => d.parameters.length) = some 2 := by decide +kernel
theorem wd_733 : Cond.instanceMethod yX8_hasPoint ∈ TB := tb_4 (List.mem_of_getElem? (i := 13) rfl) rfl
theorem wd_734 : Cond.selects yX8_hasPoint.cls yX8_hasPoint yX8_hasPoint ∈ TB := tb_4 (List.mem_of_getElem? (i := 14) rfl) rfl
theorem mv_RX9_194 : Mv RX9 194 yX8_hasPoint cX8_hasPoint 3 (some .boolean) 2 := ⟨wd_732, wd_733, wd_734, wd_3, wd_735, (yd_X8_hasPoint).1, (yd_X8_hasPoint).2.1, (yd_X8_hasPoint).2.2⟩
theorem wd_736 : Cond.methodLink RX9 198 yX9_isHouse ∈ TB := tb_4 (List.mem_of_getElem? (i := 16) rfl) rfl
theorem wd_738 : Cond.code yX9_isHouse cX9_isHouse 1 (some .boolean) ∈ TB := tb_4 (List.mem_of_getElem? (i := 18) rfl) rfl
theorem yd_X9_isHouse : yX9_isHouse.cls ≠ "java/lang/invoke/MethodHandle" ∧ yX9_isHouse.cls ≠ "java/lang/invoke/VarHandle" ∧ (parseMethodDescriptor yX9_isHouse.desc).map (fun d => d.parameters.length) = some 1 := by decide +kernel
theorem wd_737 : Cond.static yX9_isHouse ∈ TB := tb_4 (List.mem_of_getElem? (i := 17) rfl) rfl
theorem mv_RX9_198 : Ms RX9 198 yX9_isHouse cX9_isHouse 1 (some .boolean) 1 := ⟨wd_736, wd_737, wd_1, wd_738, (yd_X9_isHouse).1, (yd_X9_isHouse).2.1, (yd_X9_isHouse).2.2⟩
theorem wd_739 : Cond.methodLink RX9 201 yX9_isDay ∈ TB := tb_4 (List.mem_of_getElem? (i := 19) rfl) rfl
theorem wd_741 : Cond.code yX9_isDay cX9_isDay 1 (some .boolean) ∈ TB := tb_4 (List.mem_of_getElem? (i := 21) rfl) rfl
theorem yd_X9_isDay : yX9_isDay.cls ≠ "java/lang/invoke/MethodHandle" ∧ yX9_isDay.cls ≠ "java/lang/invoke/VarHandle" ∧ (parseMethodDescriptor yX9_isDay.desc).map (fun d => d.parameters.length) = some 1 := by decide +kernel
theorem wd_740 : Cond.static yX9_isDay ∈ TB := tb_4 (List.mem_of_getElem? (i := 20) rfl) rfl
theorem mv_RX9_201 : Ms RX9 201 yX9_isDay cX9_isDay 1 (some .boolean) 1 := ⟨wd_739, wd_740, wd_1, wd_741, (yd_X9_isDay).1, (yd_X9_isDay).2.1, (yd_X9_isDay).2.2⟩
theorem wd_742 : Cond.methodLink RX9 204 yX9_isFacing ∈ TB := tb_4 (List.mem_of_getElem? (i := 22) rfl) rfl
theorem wd_744 : Cond.code yX9_isFacing cX9_isFacing 1 (some .boolean) ∈ TB := tb_4 (List.mem_of_getElem? (i := 24) rfl) rfl
theorem yd_X9_isFacing : yX9_isFacing.cls ≠ "java/lang/invoke/MethodHandle" ∧ yX9_isFacing.cls ≠ "java/lang/invoke/VarHandle" ∧ (parseMethodDescriptor yX9_isFacing.desc).map (fun d => d.parameters.length) = some 1 := by decide +kernel
theorem wd_743 : Cond.static yX9_isFacing ∈ TB := tb_4 (List.mem_of_getElem? (i := 23) rfl) rfl
theorem mv_RX9_204 : Ms RX9 204 yX9_isFacing cX9_isFacing 1 (some .boolean) 1 := ⟨wd_742, wd_743, wd_1, wd_744, (yd_X9_isFacing).1, (yd_X9_isFacing).2.1, (yd_X9_isFacing).2.2⟩
theorem wd_745 : Cond.methodLink RX9 207 yX8_thingAt ∈ TB := tb_4 (List.mem_of_getElem? (i := 25) rfl) rfl
theorem wd_563 : Cond.code yX8_thingAt cX8_thingAt 4 (some .int) ∈ TB := tb_3 (List.mem_of_getElem? (i := 83) rfl) rfl
theorem yd_X8_thingAt : yX8_thingAt.cls ≠ "java/lang/invoke/MethodHandle" ∧ yX8_thingAt.cls ≠ "java/lang/invoke/VarHandle" ∧ (parseMethodDescriptor yX8_thingAt.desc).map (fun d => d.parameters.length) = some 2 := by decide +kernel
theorem wd_561 : Cond.instanceMethod yX8_thingAt ∈ TB := tb_3 (List.mem_of_getElem? (i := 81) rfl) rfl
theorem wd_562 : Cond.selects yX8_thingAt.cls yX8_thingAt yX8_thingAt ∈ TB := tb_3 (List.mem_of_getElem? (i := 82) rfl) rfl
theorem mv_RX9_207 : Mv RX9 207 yX8_thingAt cX8_thingAt 4 (some .int) 2 := ⟨wd_745, wd_561, wd_562, wd_3, wd_563, (yd_X8_thingAt).1, (yd_X8_thingAt).2.1, (yd_X8_thingAt).2.2⟩
theorem wd_746 : Cond.methodLink RX9 210 yX6_addRow ∈ TB := tb_4 (List.mem_of_getElem? (i := 26) rfl) rfl
theorem wd_571 : Cond.code yX6_addRow cX6_addRow 1 (some .int) ∈ TB := tb_3 (List.mem_of_getElem? (i := 91) rfl) rfl
theorem yd_X6_addRow : yX6_addRow.cls ≠ "java/lang/invoke/MethodHandle" ∧ yX6_addRow.cls ≠ "java/lang/invoke/VarHandle" ∧ (parseMethodDescriptor yX6_addRow.desc).map (fun d => d.parameters.length) = some 0 := by decide +kernel
theorem wd_569 : Cond.instanceMethod yX6_addRow ∈ TB := tb_3 (List.mem_of_getElem? (i := 89) rfl) rfl
theorem wd_570 : Cond.selects yX6_addRow.cls yX6_addRow yX6_addRow ∈ TB := tb_3 (List.mem_of_getElem? (i := 90) rfl) rfl
theorem mv_RX9_210 : Mv RX9 210 yX6_addRow cX6_addRow 1 (some .int) 0 := ⟨wd_746, wd_569, wd_570, wd_4, wd_571, (yd_X6_addRow).1, (yd_X6_addRow).2.1, (yd_X6_addRow).2.2⟩
theorem wd_747 : Cond.methodLink RX9 213 yX8_fillThing ∈ TB := tb_4 (List.mem_of_getElem? (i := 27) rfl) rfl
theorem wd_575 : Cond.code yX8_fillThing cX8_fillThing 5 none ∈ TB := tb_3 (List.mem_of_getElem? (i := 95) rfl) rfl
theorem yd_X8_fillThing : yX8_fillThing.cls ≠ "java/lang/invoke/MethodHandle" ∧ yX8_fillThing.cls ≠ "java/lang/invoke/VarHandle" ∧ (parseMethodDescriptor yX8_fillThing.desc).map (fun d => d.parameters.length) = some 4 := by decide +kernel
theorem wd_573 : Cond.instanceMethod yX8_fillThing ∈ TB := tb_3 (List.mem_of_getElem? (i := 93) rfl) rfl
theorem wd_574 : Cond.selects yX8_fillThing.cls yX8_fillThing yX8_fillThing ∈ TB := tb_3 (List.mem_of_getElem? (i := 94) rfl) rfl
theorem mv_RX9_213 : Mv RX9 213 yX8_fillThing cX8_fillThing 5 none 4 := ⟨wd_747, wd_573, wd_574, wd_3, wd_575, (yd_X8_fillThing).1, (yd_X8_fillThing).2.1, (yd_X8_fillThing).2.2⟩
theorem wd_748 : Cond.methodLink RX9 217 yX8_fillRest ∈ TB := tb_4 (List.mem_of_getElem? (i := 28) rfl) rfl
theorem wd_583 : Cond.code yX8_fillRest cX8_fillRest 5 none ∈ TB := tb_3 (List.mem_of_getElem? (i := 103) rfl) rfl
theorem yd_X8_fillRest : yX8_fillRest.cls ≠ "java/lang/invoke/MethodHandle" ∧ yX8_fillRest.cls ≠ "java/lang/invoke/VarHandle" ∧ (parseMethodDescriptor yX8_fillRest.desc).map (fun d => d.parameters.length) = some 4 := by decide +kernel
theorem wd_581 : Cond.instanceMethod yX8_fillRest ∈ TB := tb_3 (List.mem_of_getElem? (i := 101) rfl) rfl
theorem wd_582 : Cond.selects yX8_fillRest.cls yX8_fillRest yX8_fillRest ∈ TB := tb_3 (List.mem_of_getElem? (i := 102) rfl) rfl
theorem mv_RX9_217 : Mv RX9 217 yX8_fillRest cX8_fillRest 5 none 4 := ⟨wd_748, wd_581, wd_582, wd_3, wd_583, (yd_X8_fillRest).1, (yd_X8_fillRest).2.1, (yd_X8_fillRest).2.2⟩
theorem wd_753 : Cond.methodLink RX9 220 yX6_put ∈ TB := tb_4 (List.mem_of_getElem? (i := 33) rfl) rfl
theorem wd_579 : Cond.code yX6_put cX6_put 5 none ∈ TB := tb_3 (List.mem_of_getElem? (i := 99) rfl) rfl
theorem yd_X6_put : yX6_put.cls ≠ "java/lang/invoke/MethodHandle" ∧ yX6_put.cls ≠ "java/lang/invoke/VarHandle" ∧ (parseMethodDescriptor yX6_put.desc).map (fun d => d.parameters.length) = some 3 := by decide +kernel
theorem wd_577 : Cond.instanceMethod yX6_put ∈ TB := tb_3 (List.mem_of_getElem? (i := 97) rfl) rfl
theorem wd_578 : Cond.selects yX6_put.cls yX6_put yX6_put ∈ TB := tb_3 (List.mem_of_getElem? (i := 98) rfl) rfl
theorem mv_RX9_220 : Mv RX9 220 yX6_put cX6_put 5 none 3 := ⟨wd_753, wd_577, wd_578, wd_4, wd_579, (yd_X6_put).1, (yd_X6_put).2.1, (yd_X6_put).2.2⟩
theorem wd_762 : Cond.methodLink RX9 224 yX8_hasTwo ∈ TB := tb_4 (List.mem_of_getElem? (i := 42) rfl) rfl
theorem wd_765 : Cond.code yX8_hasTwo cX8_hasTwo 3 (some .boolean) ∈ TB := tb_4 (List.mem_of_getElem? (i := 45) rfl) rfl
theorem yd_X8_hasTwo : yX8_hasTwo.cls ≠ "java/lang/invoke/MethodHandle" ∧ yX8_hasTwo.cls ≠ "java/lang/invoke/VarHandle" ∧ (parseMethodDescriptor yX8_hasTwo.desc).map (fun d => d.parameters.length) = some 2 := by decide +kernel
theorem wd_763 : Cond.instanceMethod yX8_hasTwo ∈ TB := tb_4 (List.mem_of_getElem? (i := 43) rfl) rfl
theorem wd_764 : Cond.selects yX8_hasTwo.cls yX8_hasTwo yX8_hasTwo ∈ TB := tb_4 (List.mem_of_getElem? (i := 44) rfl) rfl
theorem mv_RX9_224 : Mv RX9 224 yX8_hasTwo cX8_hasTwo 3 (some .boolean) 2 := ⟨wd_762, wd_763, wd_764, wd_3, wd_765, (yd_X8_hasTwo).1, (yd_X8_hasTwo).2.1, (yd_X8_hasTwo).2.2⟩
theorem wd_767 : Cond.methodLink RX9 227 yX5_open ∈ TB := tb_4 (List.mem_of_getElem? (i := 47) rfl) rfl
theorem wd_770 : Cond.code yX5_open cX5_open 6 none ∈ TB := tb_4 (List.mem_of_getElem? (i := 50) rfl) rfl
theorem yd_X5_open : yX5_open.cls ≠ "java/lang/invoke/MethodHandle" ∧ yX5_open.cls ≠ "java/lang/invoke/VarHandle" ∧ (parseMethodDescriptor yX5_open.desc).map (fun d => d.parameters.length) = some 3 := by decide +kernel
theorem wd_768 : Cond.instanceMethod yX5_open ∈ TB := tb_4 (List.mem_of_getElem? (i := 48) rfl) rfl
theorem wd_769 : Cond.selects yX5_open.cls yX5_open yX5_open ∈ TB := tb_4 (List.mem_of_getElem? (i := 49) rfl) rfl
theorem mv_RX9_227 : Mv RX9 227 yX5_open cX5_open 6 none 3 := ⟨wd_767, wd_768, wd_769, wd_7, wd_770, (yd_X5_open).1, (yd_X5_open).2.1, (yd_X5_open).2.2⟩
theorem wd_782 : Cond.methodLink RX9 231 yX5_body ∈ TB := tb_4 (List.mem_of_getElem? (i := 62) rfl) rfl
theorem wd_785 : Cond.code yX5_body cX5_body 2 (some (.object "FarTown$Body")) ∈ TB := tb_4 (List.mem_of_getElem? (i := 65) rfl) rfl
theorem yd_X5_body : yX5_body.cls ≠ "java/lang/invoke/MethodHandle" ∧ yX5_body.cls ≠ "java/lang/invoke/VarHandle" ∧ (parseMethodDescriptor yX5_body.desc).map (fun d => d.parameters.length) = some 1 := by decide +kernel
theorem wd_783 : Cond.instanceMethod yX5_body ∈ TB := tb_4 (List.mem_of_getElem? (i := 63) rfl) rfl
theorem wd_784 : Cond.selects yX5_body.cls yX5_body yX5_body ∈ TB := tb_4 (List.mem_of_getElem? (i := 64) rfl) rfl
theorem mv_RX9_231 : Mv RX9 231 yX5_body cX5_body 2 (some (.object "FarTown$Body")) 1 := ⟨wd_782, wd_783, wd_784, wd_7, wd_785, (yd_X5_body).1, (yd_X5_body).2.1, (yd_X5_body).2.2⟩
theorem wd_786 : Cond.methodLink RX9 235 yX5_wallsBetween ∈ TB := tb_4 (List.mem_of_getElem? (i := 66) rfl) rfl
theorem wd_789 : Cond.code yX5_wallsBetween cX5_wallsBetween 4 (some .int) ∈ TB := tb_4 (List.mem_of_getElem? (i := 69) rfl) rfl
theorem yd_X5_wallsBetween : yX5_wallsBetween.cls ≠ "java/lang/invoke/MethodHandle" ∧ yX5_wallsBetween.cls ≠ "java/lang/invoke/VarHandle" ∧ (parseMethodDescriptor yX5_wallsBetween.desc).map (fun d => d.parameters.length) = some 2 := by decide +kernel
theorem wd_787 : Cond.instanceMethod yX5_wallsBetween ∈ TB := tb_4 (List.mem_of_getElem? (i := 67) rfl) rfl
theorem wd_788 : Cond.selects yX5_wallsBetween.cls yX5_wallsBetween yX5_wallsBetween ∈ TB := tb_4 (List.mem_of_getElem? (i := 68) rfl) rfl
theorem mv_RX9_235 : Mv RX9 235 yX5_wallsBetween cX5_wallsBetween 4 (some .int) 2 := ⟨wd_786, wd_787, wd_788, wd_7, wd_789, (yd_X5_wallsBetween).1, (yd_X5_wallsBetween).2.1, (yd_X5_wallsBetween).2.2⟩
theorem wd_797 : Cond.methodLink RX9 239 yJ6_bitCount_0f7a4 ∈ TB := tb_4 (List.mem_of_getElem? (i := 77) rfl) rfl
theorem wd_799 : Cond.code yJ6_bitCount_0f7a4 cJ6_bitCount_0f7a4 1 (some .int) ∈ TB := tb_4 (List.mem_of_getElem? (i := 79) rfl) rfl
theorem wd_17 : Cond.initialized yJ6_bitCount_0f7a4.cls ∈ TB := tb_1 (List.mem_of_getElem? (i := 17) rfl) rfl
theorem yd_J6_bitCount_0f7a4 : yJ6_bitCount_0f7a4.cls ≠ "java/lang/invoke/MethodHandle" ∧ yJ6_bitCount_0f7a4.cls ≠ "java/lang/invoke/VarHandle" ∧ (parseMethodDescriptor yJ6_bitCount_0f7a4.desc).map (fun d => d.parameters.length) = some 1 := by decide +kernel
theorem wd_798 : Cond.static yJ6_bitCount_0f7a4 ∈ TB := tb_4 (List.mem_of_getElem? (i := 78) rfl) rfl
theorem mv_RX9_239 : Ms RX9 239 yJ6_bitCount_0f7a4 cJ6_bitCount_0f7a4 1 (some .int) 1 := ⟨wd_797, wd_798, wd_17, wd_799, (yd_J6_bitCount_0f7a4).1, (yd_J6_bitCount_0f7a4).2.1, (yd_J6_bitCount_0f7a4).2.2⟩
theorem wd_807 : Cond.methodLink RX9 244 yX8_growth ∈ TB := tb_4 (List.mem_of_getElem? (i := 87) rfl) rfl
theorem wd_776 : Cond.code yX8_growth cX8_growth 6 (some .int) ∈ TB := tb_4 (List.mem_of_getElem? (i := 56) rfl) rfl
theorem yd_X8_growth : yX8_growth.cls ≠ "java/lang/invoke/MethodHandle" ∧ yX8_growth.cls ≠ "java/lang/invoke/VarHandle" ∧ (parseMethodDescriptor yX8_growth.desc).map (fun d => d.parameters.length) = some 2 := by decide +kernel
theorem wd_774 : Cond.instanceMethod yX8_growth ∈ TB := tb_4 (List.mem_of_getElem? (i := 54) rfl) rfl
theorem wd_775 : Cond.selects yX8_growth.cls yX8_growth yX8_growth ∈ TB := tb_4 (List.mem_of_getElem? (i := 55) rfl) rfl
theorem mv_RX9_244 : Mv RX9 244 yX8_growth cX8_growth 6 (some .int) 2 := ⟨wd_807, wd_774, wd_775, wd_3, wd_776, (yd_X8_growth).1, (yd_X8_growth).2.1, (yd_X8_growth).2.2⟩
theorem wd_812 : Cond.methodLink RX9 247 yX9_opened ∈ TB := tb_4 (List.mem_of_getElem? (i := 92) rfl) rfl
theorem wd_815 : Cond.code yX9_opened cX9_opened 6 (some .boolean) ∈ TB := tb_4 (List.mem_of_getElem? (i := 95) rfl) rfl
theorem yd_X9_opened : yX9_opened.cls ≠ "java/lang/invoke/MethodHandle" ∧ yX9_opened.cls ≠ "java/lang/invoke/VarHandle" ∧ (parseMethodDescriptor yX9_opened.desc).map (fun d => d.parameters.length) = some 3 := by decide +kernel
theorem wd_814 : Cond.instanceMethod yX9_opened ∈ TB := tb_4 (List.mem_of_getElem? (i := 94) rfl) rfl
theorem wp_31 : Cond.selects yX9_opened.cls yX9_opened yX9_opened ∈ TB := tbS (List.mem_of_getElem? (i := 31) (by decide +kernel)) rfl
theorem mv_RX9_247 : Mv RX9 247 yX9_opened cX9_opened 6 (some .boolean) 3 := ⟨wd_812, wd_814, wp_31, wd_1, wd_815, (yd_X9_opened).1, (yd_X9_opened).2.1, (yd_X9_opened).2.2⟩
theorem wd_816 : Cond.methodLink RX9 251 yX1_collect ∈ TB := tb_4 (List.mem_of_getElem? (i := 96) rfl) rfl
theorem wd_819 : Cond.code yX1_collect cX1_collect 3 none ∈ TB := tb_4 (List.mem_of_getElem? (i := 99) rfl) rfl
theorem yd_X1_collect : yX1_collect.cls ≠ "java/lang/invoke/MethodHandle" ∧ yX1_collect.cls ≠ "java/lang/invoke/VarHandle" ∧ (parseMethodDescriptor yX1_collect.desc).map (fun d => d.parameters.length) = some 0 := by decide +kernel
theorem wd_817 : Cond.instanceMethod yX1_collect ∈ TB := tb_4 (List.mem_of_getElem? (i := 97) rfl) rfl
theorem wd_818 : Cond.selects yX1_collect.cls yX1_collect yX1_collect ∈ TB := tb_4 (List.mem_of_getElem? (i := 98) rfl) rfl
theorem mv_RX9_251 : Mv RX9 251 yX1_collect cX1_collect 3 none 0 := ⟨wd_816, wd_817, wd_818, wd_9, wd_819, (yd_X1_collect).1, (yd_X1_collect).2.1, (yd_X1_collect).2.2⟩
theorem wd_861 : Cond.methodLink RX9 255 yX1_firstOf ∈ TB := tb_4 (List.mem_of_getElem? (i := 141) rfl) rfl
theorem wd_864 : Cond.code yX1_firstOf cX1_firstOf 2 (some .int) ∈ TB := tb_4 (List.mem_of_getElem? (i := 144) rfl) rfl
theorem yd_X1_firstOf : yX1_firstOf.cls ≠ "java/lang/invoke/MethodHandle" ∧ yX1_firstOf.cls ≠ "java/lang/invoke/VarHandle" ∧ (parseMethodDescriptor yX1_firstOf.desc).map (fun d => d.parameters.length) = some 1 := by decide +kernel
theorem wd_862 : Cond.instanceMethod yX1_firstOf ∈ TB := tb_4 (List.mem_of_getElem? (i := 142) rfl) rfl
theorem wd_863 : Cond.selects yX1_firstOf.cls yX1_firstOf yX1_firstOf ∈ TB := tb_4 (List.mem_of_getElem? (i := 143) rfl) rfl
theorem mv_RX9_255 : Mv RX9 255 yX1_firstOf cX1_firstOf 2 (some .int) 1 := ⟨wd_861, wd_862, wd_863, wd_9, wd_864, (yd_X1_firstOf).1, (yd_X1_firstOf).2.1, (yd_X1_firstOf).2.2⟩
theorem wd_869 : Cond.methodLink RX9 258 yX1_secondOf ∈ TB := tb_4 (List.mem_of_getElem? (i := 149) rfl) rfl
theorem wd_872 : Cond.code yX1_secondOf cX1_secondOf 2 (some .int) ∈ TB := tb_4 (List.mem_of_getElem? (i := 152) rfl) rfl
theorem yd_X1_secondOf : yX1_secondOf.cls ≠ "java/lang/invoke/MethodHandle" ∧ yX1_secondOf.cls ≠ "java/lang/invoke/VarHandle" ∧ (parseMethodDescriptor yX1_secondOf.desc).map (fun d => d.parameters.length) = some 1 := by decide +kernel
theorem wd_870 : Cond.instanceMethod yX1_secondOf ∈ TB := tb_4 (List.mem_of_getElem? (i := 150) rfl) rfl
theorem wd_871 : Cond.selects yX1_secondOf.cls yX1_secondOf yX1_secondOf ∈ TB := tb_4 (List.mem_of_getElem? (i := 151) rfl) rfl
theorem mv_RX9_258 : Mv RX9 258 yX1_secondOf cX1_secondOf 2 (some .int) 1 := ⟨wd_869, wd_870, wd_871, wd_9, wd_872, (yd_X1_secondOf).1, (yd_X1_secondOf).2.1, (yd_X1_secondOf).2.2⟩
theorem wd_873 : Cond.methodLink RX9 261 yX1_ruleOf ∈ TB := tb_4 (List.mem_of_getElem? (i := 153) rfl) rfl
theorem wd_876 : Cond.code yX1_ruleOf cX1_ruleOf 2 (some .int) ∈ TB := tb_4 (List.mem_of_getElem? (i := 156) rfl) rfl
theorem yd_X1_ruleOf : yX1_ruleOf.cls ≠ "java/lang/invoke/MethodHandle" ∧ yX1_ruleOf.cls ≠ "java/lang/invoke/VarHandle" ∧ (parseMethodDescriptor yX1_ruleOf.desc).map (fun d => d.parameters.length) = some 1 := by decide +kernel
theorem wd_874 : Cond.instanceMethod yX1_ruleOf ∈ TB := tb_4 (List.mem_of_getElem? (i := 154) rfl) rfl
theorem wd_875 : Cond.selects yX1_ruleOf.cls yX1_ruleOf yX1_ruleOf ∈ TB := tb_4 (List.mem_of_getElem? (i := 155) rfl) rfl
theorem mv_RX9_261 : Mv RX9 261 yX1_ruleOf cX1_ruleOf 2 (some .int) 1 := ⟨wd_873, wd_874, wd_875, wd_9, wd_876, (yd_X1_ruleOf).1, (yd_X1_ruleOf).2.1, (yd_X1_ruleOf).2.2⟩
theorem wd_877 : Cond.methodLink RX9 264 yX5_lacks ∈ TB := tb_4 (List.mem_of_getElem? (i := 157) rfl) rfl
theorem wd_880 : Cond.code yX5_lacks cX5_lacks 9 (some .int) ∈ TB := tb_4 (List.mem_of_getElem? (i := 160) rfl) rfl
theorem yd_X5_lacks : yX5_lacks.cls ≠ "java/lang/invoke/MethodHandle" ∧ yX5_lacks.cls ≠ "java/lang/invoke/VarHandle" ∧ (parseMethodDescriptor yX5_lacks.desc).map (fun d => d.parameters.length) = some 3 := by decide +kernel
theorem wd_878 : Cond.instanceMethod yX5_lacks ∈ TB := tb_4 (List.mem_of_getElem? (i := 158) rfl) rfl
theorem wd_879 : Cond.selects yX5_lacks.cls yX5_lacks yX5_lacks ∈ TB := tb_4 (List.mem_of_getElem? (i := 159) rfl) rfl
theorem mv_RX9_264 : Mv RX9 264 yX5_lacks cX5_lacks 9 (some .int) 3 := ⟨wd_877, wd_878, wd_879, wd_7, wd_880, (yd_X5_lacks).1, (yd_X5_lacks).2.1, (yd_X5_lacks).2.2⟩
theorem wd_882 : Cond.methodLink RX9 268 yX1_whoGoes ∈ TB := tb_4 (List.mem_of_getElem? (i := 162) rfl) rfl
theorem wd_885 : Cond.code yX1_whoGoes cX1_whoGoes 12 (some .int) ∈ TB := tb_4 (List.mem_of_getElem? (i := 165) rfl) rfl
theorem yd_X1_whoGoes : yX1_whoGoes.cls ≠ "java/lang/invoke/MethodHandle" ∧ yX1_whoGoes.cls ≠ "java/lang/invoke/VarHandle" ∧ (parseMethodDescriptor yX1_whoGoes.desc).map (fun d => d.parameters.length) = some 1 := by decide +kernel
theorem wd_883 : Cond.instanceMethod yX1_whoGoes ∈ TB := tb_4 (List.mem_of_getElem? (i := 163) rfl) rfl
theorem wd_884 : Cond.selects yX1_whoGoes.cls yX1_whoGoes yX1_whoGoes ∈ TB := tb_4 (List.mem_of_getElem? (i := 164) rfl) rfl
theorem mv_RX9_268 : Mv RX9 268 yX1_whoGoes cX1_whoGoes 12 (some .int) 1 := ⟨wd_882, wd_883, wd_884, wd_9, wd_885, (yd_X1_whoGoes).1, (yd_X1_whoGoes).2.1, (yd_X1_whoGoes).2.2⟩
theorem wd_915 : Cond.methodLink RX9 271 yX1_payer ∈ TB := tb_4 (List.mem_of_getElem? (i := 195) rfl) rfl
theorem wd_918 : Cond.code yX1_payer cX1_payer 5 (some .int) ∈ TB := tb_4 (List.mem_of_getElem? (i := 198) rfl) rfl
theorem yd_X1_payer : yX1_payer.cls ≠ "java/lang/invoke/MethodHandle" ∧ yX1_payer.cls ≠ "java/lang/invoke/VarHandle" ∧ (parseMethodDescriptor yX1_payer.desc).map (fun d => d.parameters.length) = some 2 := by decide +kernel
theorem wd_916 : Cond.instanceMethod yX1_payer ∈ TB := tb_4 (List.mem_of_getElem? (i := 196) rfl) rfl
theorem wd_917 : Cond.selects yX1_payer.cls yX1_payer yX1_payer ∈ TB := tb_4 (List.mem_of_getElem? (i := 197) rfl) rfl
theorem mv_RX9_271 : Mv RX9 271 yX1_payer cX1_payer 5 (some .int) 2 := ⟨wd_915, wd_916, wd_917, wd_9, wd_918, (yd_X1_payer).1, (yd_X1_payer).2.1, (yd_X1_payer).2.2⟩
theorem wd_919 : Cond.methodLink RX9 274 yX5_ofThing ∈ TB := tb_4 (List.mem_of_getElem? (i := 199) rfl) rfl
theorem wd_895 : Cond.code yX5_ofThing cX5_ofThing 3 (some .int) ∈ TB := tb_4 (List.mem_of_getElem? (i := 175) rfl) rfl
theorem yd_X5_ofThing : yX5_ofThing.cls ≠ "java/lang/invoke/MethodHandle" ∧ yX5_ofThing.cls ≠ "java/lang/invoke/VarHandle" ∧ (parseMethodDescriptor yX5_ofThing.desc).map (fun d => d.parameters.length) = some 2 := by decide +kernel
theorem wd_893 : Cond.instanceMethod yX5_ofThing ∈ TB := tb_4 (List.mem_of_getElem? (i := 173) rfl) rfl
theorem wd_894 : Cond.selects yX5_ofThing.cls yX5_ofThing yX5_ofThing ∈ TB := tb_4 (List.mem_of_getElem? (i := 174) rfl) rfl
theorem mv_RX9_274 : Mv RX9 274 yX5_ofThing cX5_ofThing 3 (some .int) 2 := ⟨wd_919, wd_893, wd_894, wd_7, wd_895, (yd_X5_ofThing).1, (yd_X5_ofThing).2.1, (yd_X5_ofThing).2.2⟩
theorem wd_924 : Cond.methodLink RX9 277 yX8_changesOn ∈ TB := tb_4 (List.mem_of_getElem? (i := 204) rfl) rfl
theorem wd_927 : Cond.code yX8_changesOn cX8_changesOn 3 (some .boolean) ∈ TB := tb_4 (List.mem_of_getElem? (i := 207) rfl) rfl
theorem yd_X8_changesOn : yX8_changesOn.cls ≠ "java/lang/invoke/MethodHandle" ∧ yX8_changesOn.cls ≠ "java/lang/invoke/VarHandle" ∧ (parseMethodDescriptor yX8_changesOn.desc).map (fun d => d.parameters.length) = some 1 := by decide +kernel
theorem wd_925 : Cond.instanceMethod yX8_changesOn ∈ TB := tb_4 (List.mem_of_getElem? (i := 205) rfl) rfl
theorem wd_926 : Cond.selects yX8_changesOn.cls yX8_changesOn yX8_changesOn ∈ TB := tb_4 (List.mem_of_getElem? (i := 206) rfl) rfl
theorem mv_RX9_277 : Mv RX9 277 yX8_changesOn cX8_changesOn 3 (some .boolean) 1 := ⟨wd_924, wd_925, wd_926, wd_3, wd_927, (yd_X8_changesOn).1, (yd_X8_changesOn).2.1, (yd_X8_changesOn).2.2⟩
theorem wd_929 : Cond.methodLink RX9 280 yX5_foes ∈ TB := tb_4 (List.mem_of_getElem? (i := 209) rfl) rfl
theorem wd_932 : Cond.code yX5_foes cX5_foes 3 (some .boolean) ∈ TB := tb_4 (List.mem_of_getElem? (i := 212) rfl) rfl
theorem yd_X5_foes : yX5_foes.cls ≠ "java/lang/invoke/MethodHandle" ∧ yX5_foes.cls ≠ "java/lang/invoke/VarHandle" ∧ (parseMethodDescriptor yX5_foes.desc).map (fun d => d.parameters.length) = some 2 := by decide +kernel
theorem wd_930 : Cond.instanceMethod yX5_foes ∈ TB := tb_4 (List.mem_of_getElem? (i := 210) rfl) rfl
theorem wd_931 : Cond.selects yX5_foes.cls yX5_foes yX5_foes ∈ TB := tb_4 (List.mem_of_getElem? (i := 211) rfl) rfl
theorem mv_RX9_280 : Mv RX9 280 yX5_foes cX5_foes 3 (some .boolean) 2 := ⟨wd_929, wd_930, wd_931, wd_7, wd_932, (yd_X5_foes).1, (yd_X5_foes).2.1, (yd_X5_foes).2.2⟩
theorem wd_943 : Cond.methodLink RX9 283 yX3_maySit ∈ TB := tb_4 (List.mem_of_getElem? (i := 223) rfl) rfl
theorem wd_946 : Cond.code yX3_maySit cX3_maySit 6 (some .boolean) ∈ TB := tb_4 (List.mem_of_getElem? (i := 226) rfl) rfl
theorem yd_X3_maySit : yX3_maySit.cls ≠ "java/lang/invoke/MethodHandle" ∧ yX3_maySit.cls ≠ "java/lang/invoke/VarHandle" ∧ (parseMethodDescriptor yX3_maySit.desc).map (fun d => d.parameters.length) = some 4 := by decide +kernel
theorem wd_944 : Cond.instanceMethod yX3_maySit ∈ TB := tb_4 (List.mem_of_getElem? (i := 224) rfl) rfl
theorem wd_945 : Cond.selects yX3_maySit.cls yX3_maySit yX3_maySit ∈ TB := tb_4 (List.mem_of_getElem? (i := 225) rfl) rfl
theorem mv_RX9_283 : Mv RX9 283 yX3_maySit cX3_maySit 6 (some .boolean) 4 := ⟨wd_943, wd_944, wd_945, wd_10, wd_946, (yd_X3_maySit).1, (yd_X3_maySit).2.1, (yd_X3_maySit).2.2⟩
theorem wd_970 : Cond.methodLink RX9 287 yX3_spotsFor ∈ TB := tb_5 (List.mem_of_getElem? (i := 10) rfl) rfl
theorem wd_973 : Cond.code yX3_spotsFor cX3_spotsFor 3 (some .long) ∈ TB := tb_5 (List.mem_of_getElem? (i := 13) rfl) rfl
theorem yd_X3_spotsFor : yX3_spotsFor.cls ≠ "java/lang/invoke/MethodHandle" ∧ yX3_spotsFor.cls ≠ "java/lang/invoke/VarHandle" ∧ (parseMethodDescriptor yX3_spotsFor.desc).map (fun d => d.parameters.length) = some 2 := by decide +kernel
theorem wd_971 : Cond.instanceMethod yX3_spotsFor ∈ TB := tb_5 (List.mem_of_getElem? (i := 11) rfl) rfl
theorem wd_972 : Cond.selects yX3_spotsFor.cls yX3_spotsFor yX3_spotsFor ∈ TB := tb_5 (List.mem_of_getElem? (i := 12) rfl) rfl
theorem mv_RX9_287 : Mv RX9 287 yX3_spotsFor cX3_spotsFor 3 (some .long) 2 := ⟨wd_970, wd_971, wd_972, wd_10, wd_973, (yd_X3_spotsFor).1, (yd_X3_spotsFor).2.1, (yd_X3_spotsFor).2.2⟩
theorem wd_978 : Cond.methodLink RX9 291 yJ13_bitCount_95d88 ∈ TB := tb_5 (List.mem_of_getElem? (i := 18) rfl) rfl
theorem wd_980 : Cond.code yJ13_bitCount_95d88 cJ13_bitCount_95d88 2 (some .int) ∈ TB := tb_5 (List.mem_of_getElem? (i := 20) rfl) rfl
theorem wd_19 : Cond.initialized yJ13_bitCount_95d88.cls ∈ TB := tb_1 (List.mem_of_getElem? (i := 19) rfl) rfl
theorem yd_J13_bitCount_95d88 : yJ13_bitCount_95d88.cls ≠ "java/lang/invoke/MethodHandle" ∧ yJ13_bitCount_95d88.cls ≠ "java/lang/invoke/VarHandle" ∧ (parseMethodDescriptor yJ13_bitCount_95d88.desc).map (fun d => d.parameters.length) = some 1 := by decide +kernel
theorem wd_979 : Cond.static yJ13_bitCount_95d88 ∈ TB := tb_5 (List.mem_of_getElem? (i := 19) rfl) rfl
theorem mv_RX9_291 : Ms RX9 291 yJ13_bitCount_95d88 cJ13_bitCount_95d88 2 (some .int) 1 := ⟨wd_978, wd_979, wd_19, wd_980, (yd_J13_bitCount_95d88).1, (yd_J13_bitCount_95d88).2.1, (yd_J13_bitCount_95d88).2.2⟩
theorem wd_1000 : Cond.methodLink RX9 296 yX3_findPlan ∈ TB := tb_5 (List.mem_of_getElem? (i := 40) rfl) rfl
theorem wd_1003 : Cond.code yX3_findPlan cX3_findPlan 5 (some .boolean) ∈ TB := tb_5 (List.mem_of_getElem? (i := 43) rfl) rfl
theorem yd_X3_findPlan : yX3_findPlan.cls ≠ "java/lang/invoke/MethodHandle" ∧ yX3_findPlan.cls ≠ "java/lang/invoke/VarHandle" ∧ (parseMethodDescriptor yX3_findPlan.desc).map (fun d => d.parameters.length) = some 1 := by decide +kernel
theorem wd_1001 : Cond.instanceMethod yX3_findPlan ∈ TB := tb_5 (List.mem_of_getElem? (i := 41) rfl) rfl
theorem wd_1002 : Cond.selects yX3_findPlan.cls yX3_findPlan yX3_findPlan ∈ TB := tb_5 (List.mem_of_getElem? (i := 42) rfl) rfl
theorem mv_RX9_296 : Mv RX9 296 yX3_findPlan cX3_findPlan 5 (some .boolean) 1 := ⟨wd_1000, wd_1001, wd_1002, wd_10, wd_1003, (yd_X3_findPlan).1, (yd_X3_findPlan).2.1, (yd_X3_findPlan).2.2⟩
theorem wd_1014 : Cond.methodLink RX9 300 yX3_pointOf ∈ TB := tb_5 (List.mem_of_getElem? (i := 54) rfl) rfl
theorem wd_1017 : Cond.code yX3_pointOf cX3_pointOf 3 (some .int) ∈ TB := tb_5 (List.mem_of_getElem? (i := 57) rfl) rfl
theorem yd_X3_pointOf : yX3_pointOf.cls ≠ "java/lang/invoke/MethodHandle" ∧ yX3_pointOf.cls ≠ "java/lang/invoke/VarHandle" ∧ (parseMethodDescriptor yX3_pointOf.desc).map (fun d => d.parameters.length) = some 1 := by decide +kernel
theorem wd_1015 : Cond.instanceMethod yX3_pointOf ∈ TB := tb_5 (List.mem_of_getElem? (i := 55) rfl) rfl
theorem wd_1016 : Cond.selects yX3_pointOf.cls yX3_pointOf yX3_pointOf ∈ TB := tb_5 (List.mem_of_getElem? (i := 56) rfl) rfl
theorem mv_RX9_300 : Mv RX9 300 yX3_pointOf cX3_pointOf 3 (some .int) 1 := ⟨wd_1014, wd_1015, wd_1016, wd_10, wd_1017, (yd_X3_pointOf).1, (yd_X3_pointOf).2.1, (yd_X3_pointOf).2.2⟩
theorem wd_1026 : Cond.methodLink RX9 306 yX5_findFoes ∈ TB := tb_5 (List.mem_of_getElem? (i := 66) rfl) rfl
theorem wd_1029 : Cond.code yX5_findFoes cX5_findFoes 4 (some .boolean) ∈ TB := tb_5 (List.mem_of_getElem? (i := 69) rfl) rfl
theorem yd_X5_findFoes : yX5_findFoes.cls ≠ "java/lang/invoke/MethodHandle" ∧ yX5_findFoes.cls ≠ "java/lang/invoke/VarHandle" ∧ (parseMethodDescriptor yX5_findFoes.desc).map (fun d => d.parameters.length) = some 0 := by decide +kernel
theorem wd_1027 : Cond.instanceMethod yX5_findFoes ∈ TB := tb_5 (List.mem_of_getElem? (i := 67) rfl) rfl
theorem wd_1028 : Cond.selects yX5_findFoes.cls yX5_findFoes yX5_findFoes ∈ TB := tb_5 (List.mem_of_getElem? (i := 68) rfl) rfl
theorem mv_RX9_306 : Mv RX9 306 yX5_findFoes cX5_findFoes 4 (some .boolean) 0 := ⟨wd_1026, wd_1027, wd_1028, wd_7, wd_1029, (yd_X5_findFoes).1, (yd_X5_findFoes).2.1, (yd_X5_findFoes).2.2⟩
theorem wd_1031 : Cond.methodLink RX9 310 yX1_fewestWithout ∈ TB := tb_5 (List.mem_of_getElem? (i := 71) rfl) rfl
theorem wd_1034 : Cond.code yX1_fewestWithout cX1_fewestWithout 7 (some .int) ∈ TB := tb_5 (List.mem_of_getElem? (i := 74) rfl) rfl
theorem yd_X1_fewestWithout : yX1_fewestWithout.cls ≠ "java/lang/invoke/MethodHandle" ∧ yX1_fewestWithout.cls ≠ "java/lang/invoke/VarHandle" ∧ (parseMethodDescriptor yX1_fewestWithout.desc).map (fun d => d.parameters.length) = some 1 := by decide +kernel
theorem wd_1032 : Cond.instanceMethod yX1_fewestWithout ∈ TB := tb_5 (List.mem_of_getElem? (i := 72) rfl) rfl
theorem wd_1033 : Cond.selects yX1_fewestWithout.cls yX1_fewestWithout yX1_fewestWithout ∈ TB := tb_5 (List.mem_of_getElem? (i := 73) rfl) rfl
theorem mv_RX9_310 : Mv RX9 310 yX1_fewestWithout cX1_fewestWithout 7 (some .int) 1 := ⟨wd_1031, wd_1032, wd_1033, wd_9, wd_1034, (yd_X1_fewestWithout).1, (yd_X1_fewestWithout).2.1, (yd_X1_fewestWithout).2.2⟩
theorem wd_1051 : Cond.methodLink RX9 314 yX1_fewestFences ∈ TB := tb_5 (List.mem_of_getElem? (i := 91) rfl) rfl
theorem wd_1054 : Cond.code yX1_fewestFences cX1_fewestFences 3 (some .int) ∈ TB := tb_5 (List.mem_of_getElem? (i := 94) rfl) rfl
theorem yd_X1_fewestFences : yX1_fewestFences.cls ≠ "java/lang/invoke/MethodHandle" ∧ yX1_fewestFences.cls ≠ "java/lang/invoke/VarHandle" ∧ (parseMethodDescriptor yX1_fewestFences.desc).map (fun d => d.parameters.length) = some 0 := by decide +kernel
theorem wd_1052 : Cond.instanceMethod yX1_fewestFences ∈ TB := tb_5 (List.mem_of_getElem? (i := 92) rfl) rfl
theorem wd_1053 : Cond.selects yX1_fewestFences.cls yX1_fewestFences yX1_fewestFences ∈ TB := tb_5 (List.mem_of_getElem? (i := 93) rfl) rfl
theorem mv_RX9_314 : Mv RX9 314 yX1_fewestFences cX1_fewestFences 3 (some .int) 0 := ⟨wd_1051, wd_1052, wd_1053, wd_9, wd_1054, (yd_X1_fewestFences).1, (yd_X1_fewestFences).2.1, (yd_X1_fewestFences).2.2⟩
theorem wd_1072 : Cond.methodLink RX9 317 yX8_hoursDownwind ∈ TB := tb_5 (List.mem_of_getElem? (i := 112) rfl) rfl
theorem wd_844 : Cond.code yX8_hoursDownwind cX8_hoursDownwind 9 (some .int) ∈ TB := tb_4 (List.mem_of_getElem? (i := 124) rfl) rfl
theorem yd_X8_hoursDownwind : yX8_hoursDownwind.cls ≠ "java/lang/invoke/MethodHandle" ∧ yX8_hoursDownwind.cls ≠ "java/lang/invoke/VarHandle" ∧ (parseMethodDescriptor yX8_hoursDownwind.desc).map (fun d => d.parameters.length) = some 3 := by decide +kernel
theorem wd_842 : Cond.instanceMethod yX8_hoursDownwind ∈ TB := tb_4 (List.mem_of_getElem? (i := 122) rfl) rfl
theorem wd_843 : Cond.selects yX8_hoursDownwind.cls yX8_hoursDownwind yX8_hoursDownwind ∈ TB := tb_4 (List.mem_of_getElem? (i := 123) rfl) rfl
theorem mv_RX9_317 : Mv RX9 317 yX8_hoursDownwind cX8_hoursDownwind 9 (some .int) 3 := ⟨wd_1072, wd_842, wd_843, wd_3, wd_844, (yd_X8_hoursDownwind).1, (yd_X8_hoursDownwind).2.1, (yd_X8_hoursDownwind).2.2⟩
theorem wd_1081 : Cond.methodLink RX9 321 yX3_findMoves ∈ TB := tb_5 (List.mem_of_getElem? (i := 121) rfl) rfl
theorem wd_1084 : Cond.code yX3_findMoves cX3_findMoves 9 (some .boolean) ∈ TB := tb_5 (List.mem_of_getElem? (i := 124) rfl) rfl
theorem yd_X3_findMoves : yX3_findMoves.cls ≠ "java/lang/invoke/MethodHandle" ∧ yX3_findMoves.cls ≠ "java/lang/invoke/VarHandle" ∧ (parseMethodDescriptor yX3_findMoves.desc).map (fun d => d.parameters.length) = some 0 := by decide +kernel
theorem wd_1082 : Cond.instanceMethod yX3_findMoves ∈ TB := tb_5 (List.mem_of_getElem? (i := 122) rfl) rfl
theorem wd_1083 : Cond.selects yX3_findMoves.cls yX3_findMoves yX3_findMoves ∈ TB := tb_5 (List.mem_of_getElem? (i := 123) rfl) rfl
theorem mv_RX9_321 : Mv RX9 321 yX3_findMoves cX3_findMoves 9 (some .boolean) 0 := ⟨wd_1081, wd_1082, wd_1083, wd_10, wd_1084, (yd_X3_findMoves).1, (yd_X3_findMoves).2.1, (yd_X3_findMoves).2.2⟩
theorem wd_1101 : Cond.methodLink RX9 330 yX1_hasSort ∈ TB := tb_5 (List.mem_of_getElem? (i := 141) rfl) rfl
theorem wd_1104 : Cond.code yX1_hasSort cX1_hasSort 4 (some .boolean) ∈ TB := tb_5 (List.mem_of_getElem? (i := 144) rfl) rfl
theorem yd_X1_hasSort : yX1_hasSort.cls ≠ "java/lang/invoke/MethodHandle" ∧ yX1_hasSort.cls ≠ "java/lang/invoke/VarHandle" ∧ (parseMethodDescriptor yX1_hasSort.desc).map (fun d => d.parameters.length) = some 1 := by decide +kernel
theorem wd_1102 : Cond.instanceMethod yX1_hasSort ∈ TB := tb_5 (List.mem_of_getElem? (i := 142) rfl) rfl
theorem wd_1103 : Cond.selects yX1_hasSort.cls yX1_hasSort yX1_hasSort ∈ TB := tb_5 (List.mem_of_getElem? (i := 143) rfl) rfl
theorem mv_RX9_330 : Mv RX9 330 yX1_hasSort cX1_hasSort 4 (some .boolean) 1 := ⟨wd_1101, wd_1102, wd_1103, wd_9, wd_1104, (yd_X1_hasSort).1, (yd_X1_hasSort).2.1, (yd_X1_hasSort).2.2⟩
theorem wd_1129 : Cond.methodLink RX9 336 yX7_take ∈ TB := tb_5 (List.mem_of_getElem? (i := 169) rfl) rfl
theorem wd_1132 : Cond.code yX7_take cX7_take 5 none ∈ TB := tb_5 (List.mem_of_getElem? (i := 172) rfl) rfl
theorem yd_X7_take : yX7_take.cls ≠ "java/lang/invoke/MethodHandle" ∧ yX7_take.cls ≠ "java/lang/invoke/VarHandle" ∧ (parseMethodDescriptor yX7_take.desc).map (fun d => d.parameters.length) = some 1 := by decide +kernel
theorem wd_1130 : Cond.instanceMethod yX7_take ∈ TB := tb_5 (List.mem_of_getElem? (i := 170) rfl) rfl
theorem wd_1131 : Cond.selects yX7_take.cls yX7_take yX7_take ∈ TB := tb_5 (List.mem_of_getElem? (i := 171) rfl) rfl
theorem mv_RX9_336 : Mv RX9 336 yX7_take cX7_take 5 none 1 := ⟨wd_1129, wd_1130, wd_1131, wd_2, wd_1132, (yd_X7_take).1, (yd_X7_take).2.1, (yd_X7_take).2.2⟩
theorem wd_264 : Cond.methodLink RX0 1 Lib.objectInit ∈ TB := tb_2 (List.mem_of_getElem? (i := 24) rfl) rfl
theorem mo_RX0_1 : Cond.methodLink RX0 1 Lib.objectInit ∈ TB ∧ Cond.instanceMethod Lib.objectInit ∈ TB ∧ Cond.code Lib.objectInit ⟨#[0xb1]⟩ 1 none ∈ TB := ⟨wd_264, wd_26, wd_27⟩
theorem wd_332 : Cond.methodLink RX1 3 Lib.objectInit ∈ TB := tb_2 (List.mem_of_getElem? (i := 92) rfl) rfl
theorem mo_RX1_3 : Cond.methodLink RX1 3 Lib.objectInit ∈ TB ∧ Cond.instanceMethod Lib.objectInit ∈ TB ∧ Cond.code Lib.objectInit ⟨#[0xb1]⟩ 1 none ∈ TB := ⟨wd_332, wd_26, wd_27⟩
theorem wd_820 : Cond.methodLink RX1 27 yX5_bothStand ∈ TB := tb_4 (List.mem_of_getElem? (i := 100) rfl) rfl
theorem wd_823 : Cond.code yX5_bothStand cX5_bothStand 3 (some .boolean) ∈ TB := tb_4 (List.mem_of_getElem? (i := 103) rfl) rfl
theorem yd_X5_bothStand : yX5_bothStand.cls ≠ "java/lang/invoke/MethodHandle" ∧ yX5_bothStand.cls ≠ "java/lang/invoke/VarHandle" ∧ (parseMethodDescriptor yX5_bothStand.desc).map (fun d => d.parameters.length) = some 2 := by decide +kernel
theorem wd_821 : Cond.instanceMethod yX5_bothStand ∈ TB := tb_4 (List.mem_of_getElem? (i := 101) rfl) rfl
theorem wd_822 : Cond.selects yX5_bothStand.cls yX5_bothStand yX5_bothStand ∈ TB := tb_4 (List.mem_of_getElem? (i := 102) rfl) rfl
theorem mv_RX1_27 : Mv RX1 27 yX5_bothStand cX5_bothStand 3 (some .boolean) 2 := ⟨wd_820, wd_821, wd_822, wd_7, wd_823, (yd_X5_bothStand).1, (yd_X5_bothStand).2.1, (yd_X5_bothStand).2.2⟩
theorem wd_824 : Cond.methodLink RX1 33 yX1_collectOf ∈ TB := tb_4 (List.mem_of_getElem? (i := 104) rfl) rfl
theorem wd_827 : Cond.code yX1_collectOf cX1_collectOf 5 none ∈ TB := tb_4 (List.mem_of_getElem? (i := 107) rfl) rfl
theorem yd_X1_collectOf : yX1_collectOf.cls ≠ "java/lang/invoke/MethodHandle" ∧ yX1_collectOf.cls ≠ "java/lang/invoke/VarHandle" ∧ (parseMethodDescriptor yX1_collectOf.desc).map (fun d => d.parameters.length) = some 2 := by decide +kernel
theorem wd_826 : Cond.instanceMethod yX1_collectOf ∈ TB := tb_4 (List.mem_of_getElem? (i := 106) rfl) rfl
theorem wp_32 : Cond.selects yX1_collectOf.cls yX1_collectOf yX1_collectOf ∈ TB := tbS (List.mem_of_getElem? (i := 32) (by decide +kernel)) rfl
theorem mv_RX1_33 : Mv RX1 33 yX1_collectOf cX1_collectOf 5 none 2 := ⟨wd_824, wd_826, wp_32, wd_9, wd_827, (yd_X1_collectOf).1, (yd_X1_collectOf).2.1, (yd_X1_collectOf).2.2⟩
theorem wd_828 : Cond.methodLink RX1 50 yX1_isEven ∈ TB := tb_4 (List.mem_of_getElem? (i := 108) rfl) rfl
theorem wd_830 : Cond.code yX1_isEven cX1_isEven 4 (some .boolean) ∈ TB := tb_4 (List.mem_of_getElem? (i := 110) rfl) rfl
theorem yd_X1_isEven : yX1_isEven.cls ≠ "java/lang/invoke/MethodHandle" ∧ yX1_isEven.cls ≠ "java/lang/invoke/VarHandle" ∧ (parseMethodDescriptor yX1_isEven.desc).map (fun d => d.parameters.length) = some 2 := by decide +kernel
theorem wd_829 : Cond.static yX1_isEven ∈ TB := tb_4 (List.mem_of_getElem? (i := 109) rfl) rfl
theorem mv_RX1_50 : Ms RX1 50 yX1_isEven cX1_isEven 4 (some .boolean) 2 := ⟨wd_828, wd_829, wd_9, wd_830, (yd_X1_isEven).1, (yd_X1_isEven).2.1, (yd_X1_isEven).2.2⟩
theorem wd_832 : Cond.methodLink RX1 54 yX5_body ∈ TB := tb_4 (List.mem_of_getElem? (i := 112) rfl) rfl
theorem mv_RX1_54 : Mv RX1 54 yX5_body cX5_body 2 (some (.object "FarTown$Body")) 1 := ⟨wd_832, wd_783, wd_784, wd_7, wd_785, (yd_X5_body).1, (yd_X5_body).2.1, (yd_X5_body).2.2⟩
theorem wd_833 : Cond.methodLink RX1 58 yX5_barsTwo ∈ TB := tb_4 (List.mem_of_getElem? (i := 113) rfl) rfl
theorem wd_836 : Cond.code yX5_barsTwo cX5_barsTwo 10 (some .boolean) ∈ TB := tb_4 (List.mem_of_getElem? (i := 116) rfl) rfl
theorem yd_X5_barsTwo : yX5_barsTwo.cls ≠ "java/lang/invoke/MethodHandle" ∧ yX5_barsTwo.cls ≠ "java/lang/invoke/VarHandle" ∧ (parseMethodDescriptor yX5_barsTwo.desc).map (fun d => d.parameters.length) = some 3 := by decide +kernel
theorem wd_834 : Cond.instanceMethod yX5_barsTwo ∈ TB := tb_4 (List.mem_of_getElem? (i := 114) rfl) rfl
theorem wd_835 : Cond.selects yX5_barsTwo.cls yX5_barsTwo yX5_barsTwo ∈ TB := tb_4 (List.mem_of_getElem? (i := 115) rfl) rfl
theorem mv_RX1_58 : Mv RX1 58 yX5_barsTwo cX5_barsTwo 10 (some .boolean) 3 := ⟨wd_833, wd_834, wd_835, wd_7, wd_836, (yd_X5_barsTwo).1, (yd_X5_barsTwo).2.1, (yd_X5_barsTwo).2.2⟩
theorem wd_831 : Cond.methodLink RX1 62 yX6_cell ∈ TB := tb_4 (List.mem_of_getElem? (i := 111) rfl) rfl
theorem mv_RX1_62 : Mv RX1 62 yX6_cell cX6_cell 4 (some .int) 2 := ⟨wd_831, wd_565, wd_566, wd_4, wd_567, (yd_X6_cell).1, (yd_X6_cell).2.1, (yd_X6_cell).2.2⟩
theorem wd_865 : Cond.methodLink RX1 66 yX1_codeOf ∈ TB := tb_4 (List.mem_of_getElem? (i := 145) rfl) rfl
theorem wd_868 : Cond.code yX1_codeOf cX1_codeOf 2 (some .int) ∈ TB := tb_4 (List.mem_of_getElem? (i := 148) rfl) rfl
theorem yd_X1_codeOf : yX1_codeOf.cls ≠ "java/lang/invoke/MethodHandle" ∧ yX1_codeOf.cls ≠ "java/lang/invoke/VarHandle" ∧ (parseMethodDescriptor yX1_codeOf.desc).map (fun d => d.parameters.length) = some 1 := by decide +kernel
theorem wd_867 : Cond.instanceMethod yX1_codeOf ∈ TB := tb_4 (List.mem_of_getElem? (i := 147) rfl) rfl
theorem wp_34 : Cond.selects yX1_codeOf.cls yX1_codeOf yX1_codeOf ∈ TB := tbS (List.mem_of_getElem? (i := 34) (by decide +kernel)) rfl
theorem mv_RX1_66 : Mv RX1 66 yX1_codeOf cX1_codeOf 2 (some .int) 1 := ⟨wd_865, wd_867, wp_34, wd_9, wd_868, (yd_X1_codeOf).1, (yd_X1_codeOf).2.1, (yd_X1_codeOf).2.2⟩
theorem wd_1059 : Cond.methodLink RX1 70 yX1_ruleOf ∈ TB := tb_5 (List.mem_of_getElem? (i := 99) rfl) rfl
theorem mv_RX1_70 : Mv RX1 70 yX1_ruleOf cX1_ruleOf 2 (some .int) 1 := ⟨wd_1059, wd_874, wd_875, wd_9, wd_876, (yd_X1_ruleOf).1, (yd_X1_ruleOf).2.1, (yd_X1_ruleOf).2.2⟩
theorem wd_892 : Cond.methodLink RX1 73 yX5_ofThing ∈ TB := tb_4 (List.mem_of_getElem? (i := 172) rfl) rfl
theorem mv_RX1_73 : Mv RX1 73 yX5_ofThing cX5_ofThing 3 (some .int) 2 := ⟨wd_892, wd_893, wd_894, wd_7, wd_895, (yd_X5_ofThing).1, (yd_X5_ofThing).2.1, (yd_X5_ofThing).2.2⟩
theorem wd_886 : Cond.methodLink RX1 80 yX1_firstOf ∈ TB := tb_4 (List.mem_of_getElem? (i := 166) rfl) rfl
theorem mv_RX1_80 : Mv RX1 80 yX1_firstOf cX1_firstOf 2 (some .int) 1 := ⟨wd_886, wd_862, wd_863, wd_9, wd_864, (yd_X1_firstOf).1, (yd_X1_firstOf).2.1, (yd_X1_firstOf).2.2⟩
theorem wd_887 : Cond.methodLink RX1 83 yX1_secondOf ∈ TB := tb_4 (List.mem_of_getElem? (i := 167) rfl) rfl
theorem mv_RX1_83 : Mv RX1 83 yX1_secondOf cX1_secondOf 2 (some .int) 1 := ⟨wd_887, wd_870, wd_871, wd_9, wd_872, (yd_X1_secondOf).1, (yd_X1_secondOf).2.1, (yd_X1_secondOf).2.2⟩
theorem wd_888 : Cond.methodLink RX1 90 yX1_isLater ∈ TB := tb_4 (List.mem_of_getElem? (i := 168) rfl) rfl
theorem wd_891 : Cond.code yX1_isLater cX1_isLater 5 (some .boolean) ∈ TB := tb_4 (List.mem_of_getElem? (i := 171) rfl) rfl
theorem yd_X1_isLater : yX1_isLater.cls ≠ "java/lang/invoke/MethodHandle" ∧ yX1_isLater.cls ≠ "java/lang/invoke/VarHandle" ∧ (parseMethodDescriptor yX1_isLater.desc).map (fun d => d.parameters.length) = some 2 := by decide +kernel
theorem wd_890 : Cond.instanceMethod yX1_isLater ∈ TB := tb_4 (List.mem_of_getElem? (i := 170) rfl) rfl
theorem wp_35 : Cond.selects yX1_isLater.cls yX1_isLater yX1_isLater ∈ TB := tbS (List.mem_of_getElem? (i := 35) (by decide +kernel)) rfl
theorem mv_RX1_90 : Mv RX1 90 yX1_isLater cX1_isLater 5 (some .boolean) 2 := ⟨wd_888, wd_890, wp_35, wd_9, wd_891, (yd_X1_isLater).1, (yd_X1_isLater).2.1, (yd_X1_isLater).2.2⟩
theorem wd_896 : Cond.methodLink RX1 96 yX8_gaveLeave ∈ TB := tb_4 (List.mem_of_getElem? (i := 176) rfl) rfl
theorem wd_899 : Cond.code yX8_gaveLeave cX8_gaveLeave 6 (some .boolean) ∈ TB := tb_4 (List.mem_of_getElem? (i := 179) rfl) rfl
theorem yd_X8_gaveLeave : yX8_gaveLeave.cls ≠ "java/lang/invoke/MethodHandle" ∧ yX8_gaveLeave.cls ≠ "java/lang/invoke/VarHandle" ∧ (parseMethodDescriptor yX8_gaveLeave.desc).map (fun d => d.parameters.length) = some 3 := by decide +kernel
theorem wd_897 : Cond.instanceMethod yX8_gaveLeave ∈ TB := tb_4 (List.mem_of_getElem? (i := 177) rfl) rfl
theorem wd_898 : Cond.selects yX8_gaveLeave.cls yX8_gaveLeave yX8_gaveLeave ∈ TB := tb_4 (List.mem_of_getElem? (i := 178) rfl) rfl
theorem mv_RX1_96 : Mv RX1 96 yX8_gaveLeave cX8_gaveLeave 6 (some .boolean) 3 := ⟨wd_896, wd_897, wd_898, wd_3, wd_899, (yd_X8_gaveLeave).1, (yd_X8_gaveLeave).2.1, (yd_X8_gaveLeave).2.2⟩
theorem wd_900 : Cond.methodLink RX1 102 yJ9_max_7cf53 ∈ TB := tb_4 (List.mem_of_getElem? (i := 180) rfl) rfl
theorem wd_902 : Cond.code yJ9_max_7cf53 cJ9_max_7cf53 2 (some .int) ∈ TB := tb_4 (List.mem_of_getElem? (i := 182) rfl) rfl
theorem wd_18 : Cond.initialized yJ9_max_7cf53.cls ∈ TB := tb_1 (List.mem_of_getElem? (i := 18) rfl) rfl
theorem yd_J9_max_7cf53 : yJ9_max_7cf53.cls ≠ "java/lang/invoke/MethodHandle" ∧ yJ9_max_7cf53.cls ≠ "java/lang/invoke/VarHandle" ∧ (parseMethodDescriptor yJ9_max_7cf53.desc).map (fun d => d.parameters.length) = some 2 := by decide +kernel
theorem wd_901 : Cond.static yJ9_max_7cf53 ∈ TB := tb_4 (List.mem_of_getElem? (i := 181) rfl) rfl
theorem mv_RX1_102 : Ms RX1 102 yJ9_max_7cf53 cJ9_max_7cf53 2 (some .int) 2 := ⟨wd_900, wd_901, wd_18, wd_902, (yd_J9_max_7cf53).1, (yd_J9_max_7cf53).2.1, (yd_J9_max_7cf53).2.2⟩
theorem wd_903 : Cond.methodLink RX1 113 yX8_objected ∈ TB := tb_4 (List.mem_of_getElem? (i := 183) rfl) rfl
theorem wd_906 : Cond.code yX8_objected cX8_objected 8 (some .boolean) ∈ TB := tb_4 (List.mem_of_getElem? (i := 186) rfl) rfl
theorem yd_X8_objected : yX8_objected.cls ≠ "java/lang/invoke/MethodHandle" ∧ yX8_objected.cls ≠ "java/lang/invoke/VarHandle" ∧ (parseMethodDescriptor yX8_objected.desc).map (fun d => d.parameters.length) = some 4 := by decide +kernel
theorem wd_904 : Cond.instanceMethod yX8_objected ∈ TB := tb_4 (List.mem_of_getElem? (i := 184) rfl) rfl
theorem wd_905 : Cond.selects yX8_objected.cls yX8_objected yX8_objected ∈ TB := tb_4 (List.mem_of_getElem? (i := 185) rfl) rfl
theorem mv_RX1_113 : Mv RX1 113 yX8_objected cX8_objected 8 (some .boolean) 4 := ⟨wd_903, wd_904, wd_905, wd_3, wd_906, (yd_X8_objected).1, (yd_X8_objected).2.1, (yd_X8_objected).2.2⟩
theorem wd_1035 : Cond.methodLink RX1 120 yX5_rids ∈ TB := tb_5 (List.mem_of_getElem? (i := 75) rfl) rfl
theorem wd_1038 : Cond.code yX5_rids cX5_rids 3 (some .boolean) ∈ TB := tb_5 (List.mem_of_getElem? (i := 78) rfl) rfl
theorem yd_X5_rids : yX5_rids.cls ≠ "java/lang/invoke/MethodHandle" ∧ yX5_rids.cls ≠ "java/lang/invoke/VarHandle" ∧ (parseMethodDescriptor yX5_rids.desc).map (fun d => d.parameters.length) = some 1 := by decide +kernel
theorem wd_1036 : Cond.instanceMethod yX5_rids ∈ TB := tb_5 (List.mem_of_getElem? (i := 76) rfl) rfl
theorem wd_1037 : Cond.selects yX5_rids.cls yX5_rids yX5_rids ∈ TB := tb_5 (List.mem_of_getElem? (i := 77) rfl) rfl
theorem mv_RX1_120 : Mv RX1 120 yX5_rids cX5_rids 3 (some .boolean) 1 := ⟨wd_1035, wd_1036, wd_1037, wd_7, wd_1038, (yd_X5_rids).1, (yd_X5_rids).2.1, (yd_X5_rids).2.2⟩
theorem wd_1039 : Cond.methodLink RX1 124 yX1_costOf ∈ TB := tb_5 (List.mem_of_getElem? (i := 79) rfl) rfl
theorem wd_1042 : Cond.code yX1_costOf cX1_costOf 4 (some .int) ∈ TB := tb_5 (List.mem_of_getElem? (i := 82) rfl) rfl
theorem yd_X1_costOf : yX1_costOf.cls ≠ "java/lang/invoke/MethodHandle" ∧ yX1_costOf.cls ≠ "java/lang/invoke/VarHandle" ∧ (parseMethodDescriptor yX1_costOf.desc).map (fun d => d.parameters.length) = some 1 := by decide +kernel
theorem wd_1041 : Cond.instanceMethod yX1_costOf ∈ TB := tb_5 (List.mem_of_getElem? (i := 81) rfl) rfl
theorem wp_43 : Cond.selects yX1_costOf.cls yX1_costOf yX1_costOf ∈ TB := tbS (List.mem_of_getElem? (i := 43) (by decide +kernel)) rfl
theorem mv_RX1_124 : Mv RX1 124 yX1_costOf cX1_costOf 4 (some .int) 1 := ⟨wd_1039, wd_1041, wp_43, wd_9, wd_1042, (yd_X1_costOf).1, (yd_X1_costOf).2.1, (yd_X1_costOf).2.2⟩
theorem wd_1043 : Cond.methodLink RX1 127 yX1_isLesser ∈ TB := tb_5 (List.mem_of_getElem? (i := 83) rfl) rfl
theorem wd_1045 : Cond.code yX1_isLesser cX1_isLesser 5 (some .boolean) ∈ TB := tb_5 (List.mem_of_getElem? (i := 85) rfl) rfl
theorem yd_X1_isLesser : yX1_isLesser.cls ≠ "java/lang/invoke/MethodHandle" ∧ yX1_isLesser.cls ≠ "java/lang/invoke/VarHandle" ∧ (parseMethodDescriptor yX1_isLesser.desc).map (fun d => d.parameters.length) = some 2 := by decide +kernel
theorem wd_1044 : Cond.static yX1_isLesser ∈ TB := tb_5 (List.mem_of_getElem? (i := 84) rfl) rfl
theorem mv_RX1_127 : Ms RX1 127 yX1_isLesser cX1_isLesser 5 (some .boolean) 2 := ⟨wd_1043, wd_1044, wd_9, wd_1045, (yd_X1_isLesser).1, (yd_X1_isLesser).2.1, (yd_X1_isLesser).2.2⟩
theorem wd_1046 : Cond.methodLink RX1 130 yJ6_bitCount_0f7a4 ∈ TB := tb_5 (List.mem_of_getElem? (i := 86) rfl) rfl
theorem mv_RX1_130 : Ms RX1 130 yJ6_bitCount_0f7a4 cJ6_bitCount_0f7a4 1 (some .int) 1 := ⟨wd_1046, wd_798, wd_17, wd_799, (yd_J6_bitCount_0f7a4).1, (yd_J6_bitCount_0f7a4).2.1, (yd_J6_bitCount_0f7a4).2.2⟩
theorem wd_1055 : Cond.methodLink RX1 135 yX1_fencesFor ∈ TB := tb_5 (List.mem_of_getElem? (i := 95) rfl) rfl
theorem wd_1058 : Cond.code yX1_fencesFor cX1_fencesFor 3 (some .int) ∈ TB := tb_5 (List.mem_of_getElem? (i := 98) rfl) rfl
theorem yd_X1_fencesFor : yX1_fencesFor.cls ≠ "java/lang/invoke/MethodHandle" ∧ yX1_fencesFor.cls ≠ "java/lang/invoke/VarHandle" ∧ (parseMethodDescriptor yX1_fencesFor.desc).map (fun d => d.parameters.length) = some 1 := by decide +kernel
theorem wd_1057 : Cond.instanceMethod yX1_fencesFor ∈ TB := tb_5 (List.mem_of_getElem? (i := 97) rfl) rfl
theorem wp_44 : Cond.selects yX1_fencesFor.cls yX1_fencesFor yX1_fencesFor ∈ TB := tbS (List.mem_of_getElem? (i := 44) (by decide +kernel)) rfl
theorem mv_RX1_135 : Mv RX1 135 yX1_fencesFor cX1_fencesFor 3 (some .int) 1 := ⟨wd_1055, wd_1057, wp_44, wd_9, wd_1058, (yd_X1_fencesFor).1, (yd_X1_fencesFor).2.1, (yd_X1_fencesFor).2.2⟩
theorem wd_1064 : Cond.methodLink RX1 138 yX1_meetsAll ∈ TB := tb_5 (List.mem_of_getElem? (i := 104) rfl) rfl
theorem wd_1067 : Cond.code yX1_meetsAll cX1_meetsAll 3 (some .boolean) ∈ TB := tb_5 (List.mem_of_getElem? (i := 107) rfl) rfl
theorem yd_X1_meetsAll : yX1_meetsAll.cls ≠ "java/lang/invoke/MethodHandle" ∧ yX1_meetsAll.cls ≠ "java/lang/invoke/VarHandle" ∧ (parseMethodDescriptor yX1_meetsAll.desc).map (fun d => d.parameters.length) = some 1 := by decide +kernel
theorem wd_1066 : Cond.instanceMethod yX1_meetsAll ∈ TB := tb_5 (List.mem_of_getElem? (i := 106) rfl) rfl
theorem wp_45 : Cond.selects yX1_meetsAll.cls yX1_meetsAll yX1_meetsAll ∈ TB := tbS (List.mem_of_getElem? (i := 45) (by decide +kernel)) rfl
theorem mv_RX1_138 : Mv RX1 138 yX1_meetsAll cX1_meetsAll 3 (some .boolean) 1 := ⟨wd_1064, wd_1066, wp_45, wd_9, wd_1067, (yd_X1_meetsAll).1, (yd_X1_meetsAll).2.1, (yd_X1_meetsAll).2.2⟩
theorem wd_1060 : Cond.methodLink RX1 141 yX5_fencesBetween ∈ TB := tb_5 (List.mem_of_getElem? (i := 100) rfl) rfl
theorem wd_1063 : Cond.code yX5_fencesBetween cX5_fencesBetween 4 (some .int) ∈ TB := tb_5 (List.mem_of_getElem? (i := 103) rfl) rfl
theorem yd_X5_fencesBetween : yX5_fencesBetween.cls ≠ "java/lang/invoke/MethodHandle" ∧ yX5_fencesBetween.cls ≠ "java/lang/invoke/VarHandle" ∧ (parseMethodDescriptor yX5_fencesBetween.desc).map (fun d => d.parameters.length) = some 2 := by decide +kernel
theorem wd_1061 : Cond.instanceMethod yX5_fencesBetween ∈ TB := tb_5 (List.mem_of_getElem? (i := 101) rfl) rfl
theorem wd_1062 : Cond.selects yX5_fencesBetween.cls yX5_fencesBetween yX5_fencesBetween ∈ TB := tb_5 (List.mem_of_getElem? (i := 102) rfl) rfl
theorem mv_RX1_141 : Mv RX1 141 yX5_fencesBetween cX5_fencesBetween 4 (some .int) 2 := ⟨wd_1060, wd_1061, wd_1062, wd_7, wd_1063, (yd_X5_fencesBetween).1, (yd_X5_fencesBetween).2.1, (yd_X5_fencesBetween).2.2⟩
theorem wd_140 : Cond.methodLink RX2 3 Lib.objectInit ∈ TB := tb_1 (List.mem_of_getElem? (i := 140) rfl) rfl
theorem mo_RX2_3 : Cond.methodLink RX2 3 Lib.objectInit ∈ TB ∧ Cond.instanceMethod Lib.objectInit ∈ TB ∧ Cond.code Lib.objectInit ⟨#[0xb1]⟩ 1 none ∈ TB := ⟨wd_140, wd_26, wd_27⟩
theorem wd_142 : Cond.methodLink RX2 11 yX6_init ∈ TB := tb_1 (List.mem_of_getElem? (i := 142) rfl) rfl
theorem wd_47 : Cond.code yX6_init cX6_init 3 none ∈ TB := tb_1 (List.mem_of_getElem? (i := 47) rfl) rfl
theorem yd_X6_init : yX6_init.cls ≠ "java/lang/invoke/MethodHandle" ∧ yX6_init.cls ≠ "java/lang/invoke/VarHandle" ∧ (parseMethodDescriptor yX6_init.desc).map (fun d => d.parameters.length) = some 2 := by decide +kernel
theorem wd_46 : Cond.instanceMethod yX6_init ∈ TB := tb_1 (List.mem_of_getElem? (i := 46) rfl) rfl
theorem mv_RX2_11 : Mi RX2 11 yX6_init cX6_init 3 2 := ⟨wd_142, wd_46, wd_4, wd_47, rfl, (yd_X6_init).1, (yd_X6_init).2.1, (yd_X6_init).2.2⟩
theorem wd_685 : Cond.methodLink RX2 34 yX6_take ∈ TB := tb_3 (List.mem_of_getElem? (i := 205) rfl) rfl
theorem wd_639 : Cond.code yX6_take cX6_take 2 none ∈ TB := tb_3 (List.mem_of_getElem? (i := 159) rfl) rfl
theorem yd_X6_take : yX6_take.cls ≠ "java/lang/invoke/MethodHandle" ∧ yX6_take.cls ≠ "java/lang/invoke/VarHandle" ∧ (parseMethodDescriptor yX6_take.desc).map (fun d => d.parameters.length) = some 1 := by decide +kernel
theorem wd_637 : Cond.instanceMethod yX6_take ∈ TB := tb_3 (List.mem_of_getElem? (i := 157) rfl) rfl
theorem wd_638 : Cond.selects yX6_take.cls yX6_take yX6_take ∈ TB := tb_3 (List.mem_of_getElem? (i := 158) rfl) rfl
theorem mv_RX2_34 : Mv RX2 34 yX6_take cX6_take 2 none 1 := ⟨wd_685, wd_637, wd_638, wd_4, wd_639, (yd_X6_take).1, (yd_X6_take).2.1, (yd_X6_take).2.2⟩
theorem wd_353 : Cond.methodLink RX3 3 Lib.objectInit ∈ TB := tb_2 (List.mem_of_getElem? (i := 113) rfl) rfl
theorem mo_RX3_3 : Cond.methodLink RX3 3 Lib.objectInit ∈ TB ∧ Cond.instanceMethod Lib.objectInit ∈ TB ∧ Cond.code Lib.objectInit ⟨#[0xb1]⟩ 1 none ∈ TB := ⟨wd_353, wd_26, wd_27⟩
theorem wd_952 : Cond.methodLink RX3 29 yX3_guest ∈ TB := tb_4 (List.mem_of_getElem? (i := 232) rfl) rfl
theorem wd_955 : Cond.code yX3_guest cX3_guest 2 (some (.object "FarTown$Body")) ∈ TB := tb_4 (List.mem_of_getElem? (i := 235) rfl) rfl
theorem yd_X3_guest : yX3_guest.cls ≠ "java/lang/invoke/MethodHandle" ∧ yX3_guest.cls ≠ "java/lang/invoke/VarHandle" ∧ (parseMethodDescriptor yX3_guest.desc).map (fun d => d.parameters.length) = some 1 := by decide +kernel
theorem wd_954 : Cond.instanceMethod yX3_guest ∈ TB := tb_4 (List.mem_of_getElem? (i := 234) rfl) rfl
theorem wp_37 : Cond.selects yX3_guest.cls yX3_guest yX3_guest ∈ TB := tbS (List.mem_of_getElem? (i := 37) (by decide +kernel)) rfl
theorem mv_RX3_29 : Mv RX3 29 yX3_guest cX3_guest 2 (some (.object "FarTown$Body")) 1 := ⟨wd_952, wd_954, wp_37, wd_10, wd_955, (yd_X3_guest).1, (yd_X3_guest).2.1, (yd_X3_guest).2.2⟩
theorem wd_947 : Cond.methodLink RX3 55 yX8_hasPoint ∈ TB := tb_4 (List.mem_of_getElem? (i := 227) rfl) rfl
theorem mv_RX3_55 : Mv RX3 55 yX8_hasPoint cX8_hasPoint 3 (some .boolean) 2 := ⟨wd_947, wd_733, wd_734, wd_3, wd_735, (yd_X8_hasPoint).1, (yd_X8_hasPoint).2.1, (yd_X8_hasPoint).2.2⟩
theorem wd_948 : Cond.methodLink RX3 61 yX3_welcome ∈ TB := tb_4 (List.mem_of_getElem? (i := 228) rfl) rfl
theorem wd_951 : Cond.code yX3_welcome cX3_welcome 5 none ∈ TB := tb_4 (List.mem_of_getElem? (i := 231) rfl) rfl
theorem yd_X3_welcome : yX3_welcome.cls ≠ "java/lang/invoke/MethodHandle" ∧ yX3_welcome.cls ≠ "java/lang/invoke/VarHandle" ∧ (parseMethodDescriptor yX3_welcome.desc).map (fun d => d.parameters.length) = some 3 := by decide +kernel
theorem wd_950 : Cond.instanceMethod yX3_welcome ∈ TB := tb_4 (List.mem_of_getElem? (i := 230) rfl) rfl
theorem wp_36 : Cond.selects yX3_welcome.cls yX3_welcome yX3_welcome ∈ TB := tbS (List.mem_of_getElem? (i := 36) (by decide +kernel)) rfl
theorem mv_RX3_61 : Mv RX3 61 yX3_welcome cX3_welcome 5 none 3 := ⟨wd_948, wd_950, wp_36, wd_10, wd_951, (yd_X3_welcome).1, (yd_X3_welcome).2.1, (yd_X3_welcome).2.2⟩
theorem wd_956 : Cond.methodLink RX3 65 yX3_seatAt ∈ TB := tb_4 (List.mem_of_getElem? (i := 236) rfl) rfl
theorem wd_959 : Cond.code yX3_seatAt cX3_seatAt 4 none ∈ TB := tb_4 (List.mem_of_getElem? (i := 239) rfl) rfl
theorem yd_X3_seatAt : yX3_seatAt.cls ≠ "java/lang/invoke/MethodHandle" ∧ yX3_seatAt.cls ≠ "java/lang/invoke/VarHandle" ∧ (parseMethodDescriptor yX3_seatAt.desc).map (fun d => d.parameters.length) = some 2 := by decide +kernel
theorem wd_958 : Cond.instanceMethod yX3_seatAt ∈ TB := tb_4 (List.mem_of_getElem? (i := 238) rfl) rfl
theorem wp_38 : Cond.selects yX3_seatAt.cls yX3_seatAt yX3_seatAt ∈ TB := tbS (List.mem_of_getElem? (i := 38) (by decide +kernel)) rfl
theorem mv_RX3_65 : Mv RX3 65 yX3_seatAt cX3_seatAt 4 none 2 := ⟨wd_956, wd_958, wp_38, wd_10, wd_959, (yd_X3_seatAt).1, (yd_X3_seatAt).2.1, (yd_X3_seatAt).2.2⟩
theorem wd_960 : Cond.methodLink RX3 72 yX3_mayStay ∈ TB := tb_5 (List.mem_of_getElem? (i := 0) rfl) rfl
theorem wd_963 : Cond.code yX3_mayStay cX3_mayStay 5 (some .boolean) ∈ TB := tb_5 (List.mem_of_getElem? (i := 3) rfl) rfl
theorem yd_X3_mayStay : yX3_mayStay.cls ≠ "java/lang/invoke/MethodHandle" ∧ yX3_mayStay.cls ≠ "java/lang/invoke/VarHandle" ∧ (parseMethodDescriptor yX3_mayStay.desc).map (fun d => d.parameters.length) = some 2 := by decide +kernel
theorem wd_962 : Cond.instanceMethod yX3_mayStay ∈ TB := tb_5 (List.mem_of_getElem? (i := 2) rfl) rfl
theorem wp_39 : Cond.selects yX3_mayStay.cls yX3_mayStay yX3_mayStay ∈ TB := tbS (List.mem_of_getElem? (i := 39) (by decide +kernel)) rfl
theorem mv_RX3_72 : Mv RX3 72 yX3_mayStay cX3_mayStay 5 (some .boolean) 2 := ⟨wd_960, wd_962, wp_39, wd_10, wd_963, (yd_X3_mayStay).1, (yd_X3_mayStay).2.1, (yd_X3_mayStay).2.2⟩
theorem wd_974 : Cond.methodLink RX3 76 yX3_openPoints ∈ TB := tb_5 (List.mem_of_getElem? (i := 14) rfl) rfl
theorem wd_977 : Cond.code yX3_openPoints cX3_openPoints 7 (some .long) ∈ TB := tb_5 (List.mem_of_getElem? (i := 17) rfl) rfl
theorem yd_X3_openPoints : yX3_openPoints.cls ≠ "java/lang/invoke/MethodHandle" ∧ yX3_openPoints.cls ≠ "java/lang/invoke/VarHandle" ∧ (parseMethodDescriptor yX3_openPoints.desc).map (fun d => d.parameters.length) = some 2 := by decide +kernel
theorem wd_976 : Cond.instanceMethod yX3_openPoints ∈ TB := tb_5 (List.mem_of_getElem? (i := 16) rfl) rfl
theorem wp_40 : Cond.selects yX3_openPoints.cls yX3_openPoints yX3_openPoints ∈ TB := tbS (List.mem_of_getElem? (i := 40) (by decide +kernel)) rfl
theorem mv_RX3_76 : Mv RX3 76 yX3_openPoints cX3_openPoints 7 (some .long) 2 := ⟨wd_974, wd_976, wp_40, wd_10, wd_977, (yd_X3_openPoints).1, (yd_X3_openPoints).2.1, (yd_X3_openPoints).2.2⟩
theorem wd_964 : Cond.methodLink RX3 80 yX5_body ∈ TB := tb_5 (List.mem_of_getElem? (i := 4) rfl) rfl
theorem mv_RX3_80 : Mv RX3 80 yX5_body cX5_body 2 (some (.object "FarTown$Body")) 1 := ⟨wd_964, wd_783, wd_784, wd_7, wd_785, (yd_X5_body).1, (yd_X5_body).2.1, (yd_X5_body).2.2⟩
theorem wd_965 : Cond.methodLink RX3 83 yX5_clash ∈ TB := tb_5 (List.mem_of_getElem? (i := 5) rfl) rfl
theorem wd_937 : Cond.code yX5_clash cX5_clash 4 (some .boolean) ∈ TB := tb_4 (List.mem_of_getElem? (i := 217) rfl) rfl
theorem yd_X5_clash : yX5_clash.cls ≠ "java/lang/invoke/MethodHandle" ∧ yX5_clash.cls ≠ "java/lang/invoke/VarHandle" ∧ (parseMethodDescriptor yX5_clash.desc).map (fun d => d.parameters.length) = some 2 := by decide +kernel
theorem wd_935 : Cond.instanceMethod yX5_clash ∈ TB := tb_4 (List.mem_of_getElem? (i := 215) rfl) rfl
theorem wd_936 : Cond.selects yX5_clash.cls yX5_clash yX5_clash ∈ TB := tb_4 (List.mem_of_getElem? (i := 216) rfl) rfl
theorem mv_RX3_83 : Mv RX3 83 yX5_clash cX5_clash 4 (some .boolean) 2 := ⟨wd_965, wd_935, wd_936, wd_7, wd_937, (yd_X5_clash).1, (yd_X5_clash).2.1, (yd_X5_clash).2.2⟩
theorem wd_1004 : Cond.methodLink RX3 96 yX6_cell ∈ TB := tb_5 (List.mem_of_getElem? (i := 44) rfl) rfl
theorem mv_RX3_96 : Mv RX3 96 yX6_cell cX6_cell 4 (some .int) 2 := ⟨wd_1004, wd_565, wd_566, wd_4, wd_567, (yd_X6_cell).1, (yd_X6_cell).2.1, (yd_X6_cell).2.2⟩
theorem wd_1005 : Cond.methodLink RX3 100 yX3_seatAll ∈ TB := tb_5 (List.mem_of_getElem? (i := 45) rfl) rfl
theorem wd_1008 : Cond.code yX3_seatAll cX3_seatAll 12 (some .boolean) ∈ TB := tb_5 (List.mem_of_getElem? (i := 48) rfl) rfl
theorem yd_X3_seatAll : yX3_seatAll.cls ≠ "java/lang/invoke/MethodHandle" ∧ yX3_seatAll.cls ≠ "java/lang/invoke/VarHandle" ∧ (parseMethodDescriptor yX3_seatAll.desc).map (fun d => d.parameters.length) = some 1 := by decide +kernel
theorem wd_1007 : Cond.instanceMethod yX3_seatAll ∈ TB := tb_5 (List.mem_of_getElem? (i := 47) rfl) rfl
theorem wp_41 : Cond.selects yX3_seatAll.cls yX3_seatAll yX3_seatAll ∈ TB := tbS (List.mem_of_getElem? (i := 41) (by decide +kernel)) rfl
theorem mv_RX3_100 : Mv RX3 100 yX3_seatAll cX3_seatAll 12 (some .boolean) 1 := ⟨wd_1005, wd_1007, wp_41, wd_10, wd_1008, (yd_X3_seatAll).1, (yd_X3_seatAll).2.1, (yd_X3_seatAll).2.2⟩
theorem wd_1085 : Cond.methodLink RX3 107 yX5_findFoes ∈ TB := tb_5 (List.mem_of_getElem? (i := 125) rfl) rfl
theorem mv_RX3_107 : Mv RX3 107 yX5_findFoes cX5_findFoes 4 (some .boolean) 0 := ⟨wd_1085, wd_1027, wd_1028, wd_7, wd_1029, (yd_X5_findFoes).1, (yd_X5_findFoes).2.1, (yd_X5_findFoes).2.2⟩
theorem wd_1086 : Cond.methodLink RX3 111 yJ6_bitCount_0f7a4 ∈ TB := tb_5 (List.mem_of_getElem? (i := 126) rfl) rfl
theorem mv_RX3_111 : Ms RX3 111 yJ6_bitCount_0f7a4 cJ6_bitCount_0f7a4 1 (some .int) 1 := ⟨wd_1086, wd_798, wd_17, wd_799, (yd_J6_bitCount_0f7a4).1, (yd_J6_bitCount_0f7a4).2.1, (yd_J6_bitCount_0f7a4).2.2⟩
theorem wd_1087 : Cond.methodLink RX3 117 yX5_rids ∈ TB := tb_5 (List.mem_of_getElem? (i := 127) rfl) rfl
theorem mv_RX3_117 : Mv RX3 117 yX5_rids cX5_rids 3 (some .boolean) 1 := ⟨wd_1087, wd_1036, wd_1037, wd_7, wd_1038, (yd_X5_rids).1, (yd_X5_rids).2.1, (yd_X5_rids).2.2⟩
theorem wd_1088 : Cond.methodLink RX3 120 yX3_uproot ∈ TB := tb_5 (List.mem_of_getElem? (i := 128) rfl) rfl
theorem wd_1091 : Cond.code yX3_uproot cX3_uproot 4 (some .long) ∈ TB := tb_5 (List.mem_of_getElem? (i := 131) rfl) rfl
theorem yd_X3_uproot : yX3_uproot.cls ≠ "java/lang/invoke/MethodHandle" ∧ yX3_uproot.cls ≠ "java/lang/invoke/VarHandle" ∧ (parseMethodDescriptor yX3_uproot.desc).map (fun d => d.parameters.length) = some 2 := by decide +kernel
theorem wd_1090 : Cond.instanceMethod yX3_uproot ∈ TB := tb_5 (List.mem_of_getElem? (i := 130) rfl) rfl
theorem wp_46 : Cond.selects yX3_uproot.cls yX3_uproot yX3_uproot ∈ TB := tbS (List.mem_of_getElem? (i := 46) (by decide +kernel)) rfl
theorem mv_RX3_120 : Mv RX3 120 yX3_uproot cX3_uproot 4 (some .long) 2 := ⟨wd_1088, wd_1090, wp_46, wd_10, wd_1091, (yd_X3_uproot).1, (yd_X3_uproot).2.1, (yd_X3_uproot).2.2⟩
theorem wd_1009 : Cond.methodLink RX3 125 yX3_peaceWith ∈ TB := tb_5 (List.mem_of_getElem? (i := 49) rfl) rfl
theorem wd_1012 : Cond.code yX3_peaceWith cX3_peaceWith 9 (some .long) ∈ TB := tb_5 (List.mem_of_getElem? (i := 52) rfl) rfl
theorem yd_X3_peaceWith : yX3_peaceWith.cls ≠ "java/lang/invoke/MethodHandle" ∧ yX3_peaceWith.cls ≠ "java/lang/invoke/VarHandle" ∧ (parseMethodDescriptor yX3_peaceWith.desc).map (fun d => d.parameters.length) = some 2 := by decide +kernel
theorem wd_1011 : Cond.instanceMethod yX3_peaceWith ∈ TB := tb_5 (List.mem_of_getElem? (i := 51) rfl) rfl
theorem wp_42 : Cond.selects yX3_peaceWith.cls yX3_peaceWith yX3_peaceWith ∈ TB := tbS (List.mem_of_getElem? (i := 42) (by decide +kernel)) rfl
theorem mv_RX3_125 : Mv RX3 125 yX3_peaceWith cX3_peaceWith 9 (some .long) 2 := ⟨wd_1009, wd_1011, wp_42, wd_10, wd_1012, (yd_X3_peaceWith).1, (yd_X3_peaceWith).2.1, (yd_X3_peaceWith).2.2⟩
theorem wd_1013 : Cond.methodLink RX3 128 yJ13_bitCount_95d88 ∈ TB := tb_5 (List.mem_of_getElem? (i := 53) rfl) rfl
theorem mv_RX3_128 : Ms RX3 128 yJ13_bitCount_95d88 cJ13_bitCount_95d88 2 (some .int) 1 := ⟨wd_1013, wd_979, wd_19, wd_980, (yd_J13_bitCount_95d88).1, (yd_J13_bitCount_95d88).2.1, (yd_J13_bitCount_95d88).2.2⟩
theorem wd_206 : Cond.methodLink RX4 3 Lib.objectInit ∈ TB := tb_1 (List.mem_of_getElem? (i := 206) rfl) rfl
theorem mo_RX4_3 : Cond.methodLink RX4 3 Lib.objectInit ∈ TB ∧ Cond.instanceMethod Lib.objectInit ∈ TB ∧ Cond.code Lib.objectInit ⟨#[0xb1]⟩ 1 none ∈ TB := ⟨wd_206, wd_26, wd_27⟩
theorem wd_208 : Cond.methodLink RX4 11 yX8_init ∈ TB := tb_1 (List.mem_of_getElem? (i := 208) rfl) rfl
theorem wd_41 : Cond.code yX8_init cX8_init 1 none ∈ TB := tb_1 (List.mem_of_getElem? (i := 41) rfl) rfl
theorem yd_X8_init : yX8_init.cls ≠ "java/lang/invoke/MethodHandle" ∧ yX8_init.cls ≠ "java/lang/invoke/VarHandle" ∧ (parseMethodDescriptor yX8_init.desc).map (fun d => d.parameters.length) = some 0 := by decide +kernel
theorem wd_40 : Cond.instanceMethod yX8_init ∈ TB := tb_1 (List.mem_of_getElem? (i := 40) rfl) rfl
theorem mv_RX4_11 : Mi RX4 11 yX8_init cX8_init 1 0 := ⟨wd_208, wd_40, wd_3, wd_41, rfl, (yd_X8_init).1, (yd_X8_init).2.1, (yd_X8_init).2.2⟩
theorem wd_210 : Cond.methodLink RX4 20 yX2_init ∈ TB := tb_1 (List.mem_of_getElem? (i := 210) rfl) rfl
theorem wd_139 : Cond.code yX2_init cX2_init 1 none ∈ TB := tb_1 (List.mem_of_getElem? (i := 139) rfl) rfl
theorem yd_X2_init : yX2_init.cls ≠ "java/lang/invoke/MethodHandle" ∧ yX2_init.cls ≠ "java/lang/invoke/VarHandle" ∧ (parseMethodDescriptor yX2_init.desc).map (fun d => d.parameters.length) = some 0 := by decide +kernel
theorem wd_138 : Cond.instanceMethod yX2_init ∈ TB := tb_1 (List.mem_of_getElem? (i := 138) rfl) rfl
theorem mv_RX4_20 : Mi RX4 20 yX2_init cX2_init 1 0 := ⟨wd_210, wd_138, wd_5, wd_139, rfl, (yd_X2_init).1, (yd_X2_init).2.1, (yd_X2_init).2.2⟩
theorem wd_428 : Cond.methodLink RX4 32 yX4_begin ∈ TB := tb_2 (List.mem_of_getElem? (i := 188) rfl) rfl
theorem wd_431 : Cond.code yX4_begin cX4_begin 3 none ∈ TB := tb_2 (List.mem_of_getElem? (i := 191) rfl) rfl
theorem yd_X4_begin : yX4_begin.cls ≠ "java/lang/invoke/MethodHandle" ∧ yX4_begin.cls ≠ "java/lang/invoke/VarHandle" ∧ (parseMethodDescriptor yX4_begin.desc).map (fun d => d.parameters.length) = some 2 := by decide +kernel
theorem wd_430 : Cond.instanceMethod yX4_begin ∈ TB := tb_2 (List.mem_of_getElem? (i := 190) rfl) rfl
theorem wp_0 : Cond.selects yX4_begin.cls yX4_begin yX4_begin ∈ TB := tbS (List.mem_of_getElem? (i := 0) (by decide +kernel)) rfl
theorem mv_RX4_32 : Mv RX4 32 yX4_begin cX4_begin 3 none 2 := ⟨wd_428, wd_430, wp_0, wd_6, wd_431, (yd_X4_begin).1, (yd_X4_begin).2.1, (yd_X4_begin).2.2⟩
theorem wd_449 : Cond.methodLink RX4 36 yX8_clear ∈ TB := tb_2 (List.mem_of_getElem? (i := 209) rfl) rfl
theorem wd_452 : Cond.code yX8_clear cX8_clear 2 none ∈ TB := tb_2 (List.mem_of_getElem? (i := 212) rfl) rfl
theorem yd_X8_clear : yX8_clear.cls ≠ "java/lang/invoke/MethodHandle" ∧ yX8_clear.cls ≠ "java/lang/invoke/VarHandle" ∧ (parseMethodDescriptor yX8_clear.desc).map (fun d => d.parameters.length) = some 0 := by decide +kernel
theorem wd_450 : Cond.instanceMethod yX8_clear ∈ TB := tb_2 (List.mem_of_getElem? (i := 210) rfl) rfl
theorem wd_451 : Cond.selects yX8_clear.cls yX8_clear yX8_clear ∈ TB := tb_2 (List.mem_of_getElem? (i := 211) rfl) rfl
theorem mv_RX4_36 : Mv RX4 36 yX8_clear cX8_clear 2 none 0 := ⟨wd_449, wd_450, wd_451, wd_3, wd_452, (yd_X8_clear).1, (yd_X8_clear).2.1, (yd_X8_clear).2.2⟩
theorem wd_453 : Cond.methodLink RX4 39 yX4_readSize ∈ TB := tb_2 (List.mem_of_getElem? (i := 213) rfl) rfl
theorem wd_456 : Cond.code yX4_readSize cX4_readSize 1 none ∈ TB := tb_2 (List.mem_of_getElem? (i := 216) rfl) rfl
theorem yd_X4_readSize : yX4_readSize.cls ≠ "java/lang/invoke/MethodHandle" ∧ yX4_readSize.cls ≠ "java/lang/invoke/VarHandle" ∧ (parseMethodDescriptor yX4_readSize.desc).map (fun d => d.parameters.length) = some 0 := by decide +kernel
theorem wd_455 : Cond.instanceMethod yX4_readSize ∈ TB := tb_2 (List.mem_of_getElem? (i := 215) rfl) rfl
theorem wp_3 : Cond.selects yX4_readSize.cls yX4_readSize yX4_readSize ∈ TB := tbS (List.mem_of_getElem? (i := 3) (by decide +kernel)) rfl
theorem mv_RX4_39 : Mv RX4 39 yX4_readSize cX4_readSize 1 none 0 := ⟨wd_453, wd_455, wp_3, wd_6, wd_456, (yd_X4_readSize).1, (yd_X4_readSize).2.1, (yd_X4_readSize).2.2⟩
theorem wd_538 : Cond.methodLink RX4 52 yX4_note ∈ TB := tb_3 (List.mem_of_getElem? (i := 58) rfl) rfl
theorem wd_541 : Cond.code yX4_note cX4_note 3 none ∈ TB := tb_3 (List.mem_of_getElem? (i := 61) rfl) rfl
theorem yd_X4_note : yX4_note.cls ≠ "java/lang/invoke/MethodHandle" ∧ yX4_note.cls ≠ "java/lang/invoke/VarHandle" ∧ (parseMethodDescriptor yX4_note.desc).map (fun d => d.parameters.length) = some 2 := by decide +kernel
theorem wd_540 : Cond.instanceMethod yX4_note ∈ TB := tb_3 (List.mem_of_getElem? (i := 60) rfl) rfl
theorem wp_12 : Cond.selects yX4_note.cls yX4_note yX4_note ∈ TB := tbS (List.mem_of_getElem? (i := 12) (by decide +kernel)) rfl
theorem mv_RX4_52 : Mv RX4 52 yX4_note cX4_note 3 none 2 := ⟨wd_538, wd_540, wp_12, wd_6, wd_541, (yd_X4_note).1, (yd_X4_note).2.1, (yd_X4_note).2.2⟩
theorem wd_542 : Cond.methodLink RX4 56 yX4_readLine ∈ TB := tb_3 (List.mem_of_getElem? (i := 62) rfl) rfl
theorem wd_545 : Cond.code yX4_readLine cX4_readLine 2 none ∈ TB := tb_3 (List.mem_of_getElem? (i := 65) rfl) rfl
theorem yd_X4_readLine : yX4_readLine.cls ≠ "java/lang/invoke/MethodHandle" ∧ yX4_readLine.cls ≠ "java/lang/invoke/VarHandle" ∧ (parseMethodDescriptor yX4_readLine.desc).map (fun d => d.parameters.length) = some 0 := by decide +kernel
theorem wd_544 : Cond.instanceMethod yX4_readLine ∈ TB := tb_3 (List.mem_of_getElem? (i := 64) rfl) rfl
theorem wp_13 : Cond.selects yX4_readLine.cls yX4_readLine yX4_readLine ∈ TB := tbS (List.mem_of_getElem? (i := 13) (by decide +kernel)) rfl
theorem mv_RX4_56 : Mv RX4 56 yX4_readLine cX4_readLine 2 none 0 := ⟨wd_542, wd_544, wp_13, wd_6, wd_545, (yd_X4_readLine).1, (yd_X4_readLine).2.1, (yd_X4_readLine).2.2⟩
theorem wd_655 : Cond.methodLink RX4 59 yX2_clear ∈ TB := tb_3 (List.mem_of_getElem? (i := 175) rfl) rfl
theorem wd_658 : Cond.code yX2_clear cX2_clear 1 none ∈ TB := tb_3 (List.mem_of_getElem? (i := 178) rfl) rfl
theorem yd_X2_clear : yX2_clear.cls ≠ "java/lang/invoke/MethodHandle" ∧ yX2_clear.cls ≠ "java/lang/invoke/VarHandle" ∧ (parseMethodDescriptor yX2_clear.desc).map (fun d => d.parameters.length) = some 0 := by decide +kernel
theorem wd_656 : Cond.instanceMethod yX2_clear ∈ TB := tb_3 (List.mem_of_getElem? (i := 176) rfl) rfl
theorem wd_657 : Cond.selects yX2_clear.cls yX2_clear yX2_clear ∈ TB := tb_3 (List.mem_of_getElem? (i := 177) rfl) rfl
theorem mv_RX4_59 : Mv RX4 59 yX2_clear cX2_clear 1 none 0 := ⟨wd_655, wd_656, wd_657, wd_5, wd_658, (yd_X2_clear).1, (yd_X2_clear).2.1, (yd_X2_clear).2.2⟩
theorem wd_659 : Cond.methodLink RX4 60 yX4_readRule ∈ TB := tb_3 (List.mem_of_getElem? (i := 179) rfl) rfl
theorem wd_662 : Cond.code yX4_readRule cX4_readRule 4 none ∈ TB := tb_3 (List.mem_of_getElem? (i := 182) rfl) rfl
theorem yd_X4_readRule : yX4_readRule.cls ≠ "java/lang/invoke/MethodHandle" ∧ yX4_readRule.cls ≠ "java/lang/invoke/VarHandle" ∧ (parseMethodDescriptor yX4_readRule.desc).map (fun d => d.parameters.length) = some 0 := by decide +kernel
theorem wd_661 : Cond.instanceMethod yX4_readRule ∈ TB := tb_3 (List.mem_of_getElem? (i := 181) rfl) rfl
theorem wp_26 : Cond.selects yX4_readRule.cls yX4_readRule yX4_readRule ∈ TB := tbS (List.mem_of_getElem? (i := 26) (by decide +kernel)) rfl
theorem mv_RX4_60 : Mv RX4 60 yX4_readRule cX4_readRule 4 none 0 := ⟨wd_659, wd_661, wp_26, wd_6, wd_662, (yd_X4_readRule).1, (yd_X4_readRule).2.1, (yd_X4_readRule).2.2⟩
theorem wd_432 : Cond.methodLink RX4 76 yX4_step ∈ TB := tb_2 (List.mem_of_getElem? (i := 192) rfl) rfl
theorem wd_435 : Cond.code yX4_step cX4_step 2 none ∈ TB := tb_2 (List.mem_of_getElem? (i := 195) rfl) rfl
theorem yd_X4_step : yX4_step.cls ≠ "java/lang/invoke/MethodHandle" ∧ yX4_step.cls ≠ "java/lang/invoke/VarHandle" ∧ (parseMethodDescriptor yX4_step.desc).map (fun d => d.parameters.length) = some 0 := by decide +kernel
theorem wd_434 : Cond.instanceMethod yX4_step ∈ TB := tb_2 (List.mem_of_getElem? (i := 194) rfl) rfl
theorem wp_1 : Cond.selects yX4_step.cls yX4_step yX4_step ∈ TB := tbS (List.mem_of_getElem? (i := 1) (by decide +kernel)) rfl
theorem mv_RX4_76 : Mv RX4 76 yX4_step cX4_step 2 none 0 := ⟨wd_432, wd_434, wp_1, wd_6, wd_435, (yd_X4_step).1, (yd_X4_step).2.1, (yd_X4_step).2.2⟩
theorem wd_458 : Cond.methodLink RX4 81 yX4_readWord ∈ TB := tb_2 (List.mem_of_getElem? (i := 218) rfl) rfl
theorem wd_461 : Cond.code yX4_readWord cX4_readWord 2 (some .boolean) ∈ TB := tb_2 (List.mem_of_getElem? (i := 221) rfl) rfl
theorem yd_X4_readWord : yX4_readWord.cls ≠ "java/lang/invoke/MethodHandle" ∧ yX4_readWord.cls ≠ "java/lang/invoke/VarHandle" ∧ (parseMethodDescriptor yX4_readWord.desc).map (fun d => d.parameters.length) = some 1 := by decide +kernel
theorem wd_460 : Cond.instanceMethod yX4_readWord ∈ TB := tb_2 (List.mem_of_getElem? (i := 220) rfl) rfl
theorem wp_4 : Cond.selects yX4_readWord.cls yX4_readWord yX4_readWord ∈ TB := tbS (List.mem_of_getElem? (i := 4) (by decide +kernel)) rfl
theorem mv_RX4_81 : Mv RX4 81 yX4_readWord cX4_readWord 2 (some .boolean) 1 := ⟨wd_458, wd_460, wp_4, wd_6, wd_461, (yd_X4_readWord).1, (yd_X4_readWord).2.1, (yd_X4_readWord).2.2⟩
theorem wd_518 : Cond.methodLink RX4 85 yX4_readNumbers ∈ TB := tb_3 (List.mem_of_getElem? (i := 38) rfl) rfl
theorem wd_521 : Cond.code yX4_readNumbers cX4_readNumbers 4 (some .boolean) ∈ TB := tb_3 (List.mem_of_getElem? (i := 41) rfl) rfl
theorem yd_X4_readNumbers : yX4_readNumbers.cls ≠ "java/lang/invoke/MethodHandle" ∧ yX4_readNumbers.cls ≠ "java/lang/invoke/VarHandle" ∧ (parseMethodDescriptor yX4_readNumbers.desc).map (fun d => d.parameters.length) = some 2 := by decide +kernel
theorem wd_520 : Cond.instanceMethod yX4_readNumbers ∈ TB := tb_3 (List.mem_of_getElem? (i := 40) rfl) rfl
theorem wp_7 : Cond.selects yX4_readNumbers.cls yX4_readNumbers yX4_readNumbers ∈ TB := tbS (List.mem_of_getElem? (i := 7) (by decide +kernel)) rfl
theorem mv_RX4_85 : Mv RX4 85 yX4_readNumbers cX4_readNumbers 4 (some .boolean) 2 := ⟨wd_518, wd_520, wp_7, wd_6, wd_521, (yd_X4_readNumbers).1, (yd_X4_readNumbers).2.1, (yd_X4_readNumbers).2.2⟩
theorem wd_522 : Cond.methodLink RX4 89 yX4_readStop ∈ TB := tb_3 (List.mem_of_getElem? (i := 42) rfl) rfl
theorem wd_525 : Cond.code yX4_readStop cX4_readStop 1 (some .boolean) ∈ TB := tb_3 (List.mem_of_getElem? (i := 45) rfl) rfl
theorem yd_X4_readStop : yX4_readStop.cls ≠ "java/lang/invoke/MethodHandle" ∧ yX4_readStop.cls ≠ "java/lang/invoke/VarHandle" ∧ (parseMethodDescriptor yX4_readStop.desc).map (fun d => d.parameters.length) = some 0 := by decide +kernel
theorem wd_524 : Cond.instanceMethod yX4_readStop ∈ TB := tb_3 (List.mem_of_getElem? (i := 44) rfl) rfl
theorem wp_8 : Cond.selects yX4_readStop.cls yX4_readStop yX4_readStop ∈ TB := tbS (List.mem_of_getElem? (i := 8) (by decide +kernel)) rfl
theorem mv_RX4_89 : Mv RX4 89 yX4_readStop cX4_readStop 1 (some .boolean) 0 := ⟨wd_522, wd_524, wp_8, wd_6, wd_525, (yd_X4_readStop).1, (yd_X4_readStop).2.1, (yd_X4_readStop).2.2⟩
theorem wd_526 : Cond.methodLink RX4 93 yX4_check ∈ TB := tb_3 (List.mem_of_getElem? (i := 46) rfl) rfl
theorem wd_529 : Cond.code yX4_check cX4_check 4 none ∈ TB := tb_3 (List.mem_of_getElem? (i := 49) rfl) rfl
theorem yd_X4_check : yX4_check.cls ≠ "java/lang/invoke/MethodHandle" ∧ yX4_check.cls ≠ "java/lang/invoke/VarHandle" ∧ (parseMethodDescriptor yX4_check.desc).map (fun d => d.parameters.length) = some 3 := by decide +kernel
theorem wd_528 : Cond.instanceMethod yX4_check ∈ TB := tb_3 (List.mem_of_getElem? (i := 48) rfl) rfl
theorem wp_9 : Cond.selects yX4_check.cls yX4_check yX4_check ∈ TB := tbS (List.mem_of_getElem? (i := 9) (by decide +kernel)) rfl
theorem mv_RX4_93 : Mv RX4 93 yX4_check cX4_check 4 none 3 := ⟨wd_526, wd_528, wp_9, wd_6, wd_529, (yd_X4_check).1, (yd_X4_check).2.1, (yd_X4_check).2.2⟩
theorem wd_530 : Cond.methodLink RX4 97 yX4_number ∈ TB := tb_3 (List.mem_of_getElem? (i := 50) rfl) rfl
theorem wd_533 : Cond.code yX4_number cX4_number 2 (some .int) ∈ TB := tb_3 (List.mem_of_getElem? (i := 53) rfl) rfl
theorem yd_X4_number : yX4_number.cls ≠ "java/lang/invoke/MethodHandle" ∧ yX4_number.cls ≠ "java/lang/invoke/VarHandle" ∧ (parseMethodDescriptor yX4_number.desc).map (fun d => d.parameters.length) = some 1 := by decide +kernel
theorem wd_532 : Cond.instanceMethod yX4_number ∈ TB := tb_3 (List.mem_of_getElem? (i := 52) rfl) rfl
theorem wp_10 : Cond.selects yX4_number.cls yX4_number yX4_number ∈ TB := tbS (List.mem_of_getElem? (i := 10) (by decide +kernel)) rfl
theorem mv_RX4_97 : Mv RX4 97 yX4_number cX4_number 2 (some .int) 1 := ⟨wd_530, wd_532, wp_10, wd_6, wd_533, (yd_X4_number).1, (yd_X4_number).2.1, (yd_X4_number).2.2⟩
theorem wd_462 : Cond.methodLink RX4 109 yX4_isWord ∈ TB := tb_2 (List.mem_of_getElem? (i := 222) rfl) rfl
theorem wd_465 : Cond.code yX4_isWord cX4_isWord 3 (some .boolean) ∈ TB := tb_2 (List.mem_of_getElem? (i := 225) rfl) rfl
theorem yd_X4_isWord : yX4_isWord.cls ≠ "java/lang/invoke/MethodHandle" ∧ yX4_isWord.cls ≠ "java/lang/invoke/VarHandle" ∧ (parseMethodDescriptor yX4_isWord.desc).map (fun d => d.parameters.length) = some 1 := by decide +kernel
theorem wd_464 : Cond.instanceMethod yX4_isWord ∈ TB := tb_2 (List.mem_of_getElem? (i := 224) rfl) rfl
theorem wp_5 : Cond.selects yX4_isWord.cls yX4_isWord yX4_isWord ∈ TB := tbS (List.mem_of_getElem? (i := 5) (by decide +kernel)) rfl
theorem mv_RX4_109 : Mv RX4 109 yX4_isWord cX4_isWord 3 (some .boolean) 1 := ⟨wd_462, wd_464, wp_5, wd_6, wd_465, (yd_X4_isWord).1, (yd_X4_isWord).2.1, (yd_X4_isWord).2.2⟩
theorem wd_547 : Cond.methodLink RX4 112 yX4_readThing ∈ TB := tb_3 (List.mem_of_getElem? (i := 67) rfl) rfl
theorem wd_550 : Cond.code yX4_readThing cX4_readThing 4 none ∈ TB := tb_3 (List.mem_of_getElem? (i := 70) rfl) rfl
theorem yd_X4_readThing : yX4_readThing.cls ≠ "java/lang/invoke/MethodHandle" ∧ yX4_readThing.cls ≠ "java/lang/invoke/VarHandle" ∧ (parseMethodDescriptor yX4_readThing.desc).map (fun d => d.parameters.length) = some 1 := by decide +kernel
theorem wd_549 : Cond.instanceMethod yX4_readThing ∈ TB := tb_3 (List.mem_of_getElem? (i := 69) rfl) rfl
theorem wp_14 : Cond.selects yX4_readThing.cls yX4_readThing yX4_readThing ∈ TB := tbS (List.mem_of_getElem? (i := 14) (by decide +kernel)) rfl
theorem mv_RX4_112 : Mv RX4 112 yX4_readThing cX4_readThing 4 none 1 := ⟨wd_547, wd_549, wp_14, wd_6, wd_550, (yd_X4_readThing).1, (yd_X4_readThing).2.1, (yd_X4_readThing).2.2⟩
theorem wd_585 : Cond.methodLink RX4 122 yX4_readSpan ∈ TB := tb_3 (List.mem_of_getElem? (i := 105) rfl) rfl
theorem wd_588 : Cond.code yX4_readSpan cX4_readSpan 4 none ∈ TB := tb_3 (List.mem_of_getElem? (i := 108) rfl) rfl
theorem yd_X4_readSpan : yX4_readSpan.cls ≠ "java/lang/invoke/MethodHandle" ∧ yX4_readSpan.cls ≠ "java/lang/invoke/VarHandle" ∧ (parseMethodDescriptor yX4_readSpan.desc).map (fun d => d.parameters.length) = some 3 := by decide +kernel
theorem wd_587 : Cond.instanceMethod yX4_readSpan ∈ TB := tb_3 (List.mem_of_getElem? (i := 107) rfl) rfl
theorem wp_17 : Cond.selects yX4_readSpan.cls yX4_readSpan yX4_readSpan ∈ TB := tbS (List.mem_of_getElem? (i := 17) (by decide +kernel)) rfl
theorem mv_RX4_122 : Mv RX4 122 yX4_readSpan cX4_readSpan 4 none 3 := ⟨wd_585, wd_587, wp_17, wd_6, wd_588, (yd_X4_readSpan).1, (yd_X4_readSpan).2.1, (yd_X4_readSpan).2.2⟩
theorem wd_596 : Cond.methodLink RX4 133 yX4_readWind ∈ TB := tb_3 (List.mem_of_getElem? (i := 116) rfl) rfl
theorem wd_599 : Cond.code yX4_readWind cX4_readWind 2 none ∈ TB := tb_3 (List.mem_of_getElem? (i := 119) rfl) rfl
theorem yd_X4_readWind : yX4_readWind.cls ≠ "java/lang/invoke/MethodHandle" ∧ yX4_readWind.cls ≠ "java/lang/invoke/VarHandle" ∧ (parseMethodDescriptor yX4_readWind.desc).map (fun d => d.parameters.length) = some 0 := by decide +kernel
theorem wd_598 : Cond.instanceMethod yX4_readWind ∈ TB := tb_3 (List.mem_of_getElem? (i := 118) rfl) rfl
theorem wp_19 : Cond.selects yX4_readWind.cls yX4_readWind yX4_readWind ∈ TB := tbS (List.mem_of_getElem? (i := 19) (by decide +kernel)) rfl
theorem mv_RX4_133 : Mv RX4 133 yX4_readWind cX4_readWind 2 none 0 := ⟨wd_596, wd_598, wp_19, wd_6, wd_599, (yd_X4_readWind).1, (yd_X4_readWind).2.1, (yd_X4_readWind).2.2⟩
theorem wd_601 : Cond.methodLink RX4 138 yX4_readSlope ∈ TB := tb_3 (List.mem_of_getElem? (i := 121) rfl) rfl
theorem wd_604 : Cond.code yX4_readSlope cX4_readSlope 3 none ∈ TB := tb_3 (List.mem_of_getElem? (i := 124) rfl) rfl
theorem yd_X4_readSlope : yX4_readSlope.cls ≠ "java/lang/invoke/MethodHandle" ∧ yX4_readSlope.cls ≠ "java/lang/invoke/VarHandle" ∧ (parseMethodDescriptor yX4_readSlope.desc).map (fun d => d.parameters.length) = some 0 := by decide +kernel
theorem wd_603 : Cond.instanceMethod yX4_readSlope ∈ TB := tb_3 (List.mem_of_getElem? (i := 123) rfl) rfl
theorem wp_20 : Cond.selects yX4_readSlope.cls yX4_readSlope yX4_readSlope ∈ TB := tbS (List.mem_of_getElem? (i := 20) (by decide +kernel)) rfl
theorem mv_RX4_138 : Mv RX4 138 yX4_readSlope cX4_readSlope 3 none 0 := ⟨wd_601, wd_603, wp_20, wd_6, wd_604, (yd_X4_readSlope).1, (yd_X4_readSlope).2.1, (yd_X4_readSlope).2.2⟩
theorem wd_612 : Cond.methodLink RX4 143 yX4_readLeave ∈ TB := tb_3 (List.mem_of_getElem? (i := 132) rfl) rfl
theorem wd_615 : Cond.code yX4_readLeave cX4_readLeave 2 none ∈ TB := tb_3 (List.mem_of_getElem? (i := 135) rfl) rfl
theorem yd_X4_readLeave : yX4_readLeave.cls ≠ "java/lang/invoke/MethodHandle" ∧ yX4_readLeave.cls ≠ "java/lang/invoke/VarHandle" ∧ (parseMethodDescriptor yX4_readLeave.desc).map (fun d => d.parameters.length) = some 1 := by decide +kernel
theorem wd_614 : Cond.instanceMethod yX4_readLeave ∈ TB := tb_3 (List.mem_of_getElem? (i := 134) rfl) rfl
theorem wp_22 : Cond.selects yX4_readLeave.cls yX4_readLeave yX4_readLeave ∈ TB := tbS (List.mem_of_getElem? (i := 22) (by decide +kernel)) rfl
theorem mv_RX4_143 : Mv RX4 143 yX4_readLeave cX4_readLeave 2 none 1 := ⟨wd_612, wd_614, wp_22, wd_6, wd_615, (yd_X4_readLeave).1, (yd_X4_readLeave).2.1, (yd_X4_readLeave).2.2⟩
theorem wd_617 : Cond.methodLink RX4 148 yX4_readObjection ∈ TB := tb_3 (List.mem_of_getElem? (i := 137) rfl) rfl
theorem wd_620 : Cond.code yX4_readObjection cX4_readObjection 2 none ∈ TB := tb_3 (List.mem_of_getElem? (i := 140) rfl) rfl
theorem yd_X4_readObjection : yX4_readObjection.cls ≠ "java/lang/invoke/MethodHandle" ∧ yX4_readObjection.cls ≠ "java/lang/invoke/VarHandle" ∧ (parseMethodDescriptor yX4_readObjection.desc).map (fun d => d.parameters.length) = some 1 := by decide +kernel
theorem wd_619 : Cond.instanceMethod yX4_readObjection ∈ TB := tb_3 (List.mem_of_getElem? (i := 139) rfl) rfl
theorem wp_23 : Cond.selects yX4_readObjection.cls yX4_readObjection yX4_readObjection ∈ TB := tbS (List.mem_of_getElem? (i := 23) (by decide +kernel)) rfl
theorem mv_RX4_148 : Mv RX4 148 yX4_readObjection cX4_readObjection 2 none 1 := ⟨wd_617, wd_619, wp_23, wd_6, wd_620, (yd_X4_readObjection).1, (yd_X4_readObjection).2.1, (yd_X4_readObjection).2.2⟩
theorem wd_622 : Cond.methodLink RX4 153 yX4_readCost ∈ TB := tb_3 (List.mem_of_getElem? (i := 142) rfl) rfl
theorem wd_625 : Cond.code yX4_readCost cX4_readCost 1 none ∈ TB := tb_3 (List.mem_of_getElem? (i := 145) rfl) rfl
theorem yd_X4_readCost : yX4_readCost.cls ≠ "java/lang/invoke/MethodHandle" ∧ yX4_readCost.cls ≠ "java/lang/invoke/VarHandle" ∧ (parseMethodDescriptor yX4_readCost.desc).map (fun d => d.parameters.length) = some 0 := by decide +kernel
theorem wd_624 : Cond.instanceMethod yX4_readCost ∈ TB := tb_3 (List.mem_of_getElem? (i := 144) rfl) rfl
theorem wp_24 : Cond.selects yX4_readCost.cls yX4_readCost yX4_readCost ∈ TB := tbS (List.mem_of_getElem? (i := 24) (by decide +kernel)) rfl
theorem mv_RX4_153 : Mv RX4 153 yX4_readCost cX4_readCost 1 none 0 := ⟨wd_622, wd_624, wp_24, wd_6, wd_625, (yd_X4_readCost).1, (yd_X4_readCost).2.1, (yd_X4_readCost).2.2⟩
theorem wd_627 : Cond.methodLink RX4 158 yX4_readGrow ∈ TB := tb_3 (List.mem_of_getElem? (i := 147) rfl) rfl
theorem wd_630 : Cond.code yX4_readGrow cX4_readGrow 2 none ∈ TB := tb_3 (List.mem_of_getElem? (i := 150) rfl) rfl
theorem yd_X4_readGrow : yX4_readGrow.cls ≠ "java/lang/invoke/MethodHandle" ∧ yX4_readGrow.cls ≠ "java/lang/invoke/VarHandle" ∧ (parseMethodDescriptor yX4_readGrow.desc).map (fun d => d.parameters.length) = some 0 := by decide +kernel
theorem wd_629 : Cond.instanceMethod yX4_readGrow ∈ TB := tb_3 (List.mem_of_getElem? (i := 149) rfl) rfl
theorem wp_25 : Cond.selects yX4_readGrow.cls yX4_readGrow yX4_readGrow ∈ TB := tbS (List.mem_of_getElem? (i := 25) (by decide +kernel)) rfl
theorem mv_RX4_158 : Mv RX4 158 yX4_readGrow cX4_readGrow 2 none 0 := ⟨wd_627, wd_629, wp_25, wd_6, wd_630, (yd_X4_readGrow).1, (yd_X4_readGrow).2.1, (yd_X4_readGrow).2.2⟩
theorem wd_514 : Cond.methodLink RX4 161 yX4_breakOff ∈ TB := tb_3 (List.mem_of_getElem? (i := 34) rfl) rfl
theorem wd_517 : Cond.code yX4_breakOff cX4_breakOff 1 none ∈ TB := tb_3 (List.mem_of_getElem? (i := 37) rfl) rfl
theorem yd_X4_breakOff : yX4_breakOff.cls ≠ "java/lang/invoke/MethodHandle" ∧ yX4_breakOff.cls ≠ "java/lang/invoke/VarHandle" ∧ (parseMethodDescriptor yX4_breakOff.desc).map (fun d => d.parameters.length) = some 0 := by decide +kernel
theorem wd_516 : Cond.instanceMethod yX4_breakOff ∈ TB := tb_3 (List.mem_of_getElem? (i := 36) rfl) rfl
theorem wp_6 : Cond.selects yX4_breakOff.cls yX4_breakOff yX4_breakOff ∈ TB := tbS (List.mem_of_getElem? (i := 6) (by decide +kernel)) rfl
theorem mv_RX4_161 : Mv RX4 161 yX4_breakOff cX4_breakOff 1 none 0 := ⟨wd_514, wd_516, wp_6, wd_6, wd_517, (yd_X4_breakOff).1, (yd_X4_breakOff).2.1, (yd_X4_breakOff).2.2⟩
theorem wd_552 : Cond.methodLink RX4 169 yX4_checkPlaceFor ∈ TB := tb_3 (List.mem_of_getElem? (i := 72) rfl) rfl
theorem wd_555 : Cond.code yX4_checkPlaceFor cX4_checkPlaceFor 3 none ∈ TB := tb_3 (List.mem_of_getElem? (i := 75) rfl) rfl
theorem yd_X4_checkPlaceFor : yX4_checkPlaceFor.cls ≠ "java/lang/invoke/MethodHandle" ∧ yX4_checkPlaceFor.cls ≠ "java/lang/invoke/VarHandle" ∧ (parseMethodDescriptor yX4_checkPlaceFor.desc).map (fun d => d.parameters.length) = some 2 := by decide +kernel
theorem wd_554 : Cond.instanceMethod yX4_checkPlaceFor ∈ TB := tb_3 (List.mem_of_getElem? (i := 74) rfl) rfl
theorem wp_15 : Cond.selects yX4_checkPlaceFor.cls yX4_checkPlaceFor yX4_checkPlaceFor ∈ TB := tbS (List.mem_of_getElem? (i := 15) (by decide +kernel)) rfl
theorem mv_RX4_169 : Mv RX4 169 yX4_checkPlaceFor cX4_checkPlaceFor 3 none 2 := ⟨wd_552, wd_554, wp_15, wd_6, wd_555, (yd_X4_checkPlaceFor).1, (yd_X4_checkPlaceFor).2.1, (yd_X4_checkPlaceFor).2.2⟩
theorem wd_556 : Cond.methodLink RX4 173 yX4_checkPoint ∈ TB := tb_3 (List.mem_of_getElem? (i := 76) rfl) rfl
theorem wd_559 : Cond.code yX4_checkPoint cX4_checkPoint 2 none ∈ TB := tb_3 (List.mem_of_getElem? (i := 79) rfl) rfl
theorem yd_X4_checkPoint : yX4_checkPoint.cls ≠ "java/lang/invoke/MethodHandle" ∧ yX4_checkPoint.cls ≠ "java/lang/invoke/VarHandle" ∧ (parseMethodDescriptor yX4_checkPoint.desc).map (fun d => d.parameters.length) = some 1 := by decide +kernel
theorem wd_558 : Cond.instanceMethod yX4_checkPoint ∈ TB := tb_3 (List.mem_of_getElem? (i := 78) rfl) rfl
theorem wp_16 : Cond.selects yX4_checkPoint.cls yX4_checkPoint yX4_checkPoint ∈ TB := tbS (List.mem_of_getElem? (i := 16) (by decide +kernel)) rfl
theorem mv_RX4_173 : Mv RX4 173 yX4_checkPoint cX4_checkPoint 2 none 1 := ⟨wd_556, wd_558, wp_16, wd_6, wd_559, (yd_X4_checkPoint).1, (yd_X4_checkPoint).2.1, (yd_X4_checkPoint).2.2⟩
theorem wd_560 : Cond.methodLink RX4 176 yX8_thingAt ∈ TB := tb_3 (List.mem_of_getElem? (i := 80) rfl) rfl
theorem mv_RX4_176 : Mv RX4 176 yX8_thingAt cX8_thingAt 4 (some .int) 2 := ⟨wd_560, wd_561, wd_562, wd_3, wd_563, (yd_X8_thingAt).1, (yd_X8_thingAt).2.1, (yd_X8_thingAt).2.2⟩
theorem wd_534 : Cond.methodLink RX4 180 yX4_placeOf ∈ TB := tb_3 (List.mem_of_getElem? (i := 54) rfl) rfl
theorem wd_537 : Cond.code yX4_placeOf cX4_placeOf 2 (some .int) ∈ TB := tb_3 (List.mem_of_getElem? (i := 57) rfl) rfl
theorem yd_X4_placeOf : yX4_placeOf.cls ≠ "java/lang/invoke/MethodHandle" ∧ yX4_placeOf.cls ≠ "java/lang/invoke/VarHandle" ∧ (parseMethodDescriptor yX4_placeOf.desc).map (fun d => d.parameters.length) = some 1 := by decide +kernel
theorem wd_536 : Cond.instanceMethod yX4_placeOf ∈ TB := tb_3 (List.mem_of_getElem? (i := 56) rfl) rfl
theorem wp_11 : Cond.selects yX4_placeOf.cls yX4_placeOf yX4_placeOf ∈ TB := tbS (List.mem_of_getElem? (i := 11) (by decide +kernel)) rfl
theorem mv_RX4_180 : Mv RX4 180 yX4_placeOf cX4_placeOf 2 (some .int) 1 := ⟨wd_534, wd_536, wp_11, wd_6, wd_537, (yd_X4_placeOf).1, (yd_X4_placeOf).2.1, (yd_X4_placeOf).2.2⟩
theorem wd_568 : Cond.methodLink RX4 183 yX6_addRow ∈ TB := tb_3 (List.mem_of_getElem? (i := 88) rfl) rfl
theorem mv_RX4_183 : Mv RX4 183 yX6_addRow cX6_addRow 1 (some .int) 0 := ⟨wd_568, wd_569, wd_570, wd_4, wd_571, (yd_X6_addRow).1, (yd_X6_addRow).2.1, (yd_X6_addRow).2.2⟩
theorem wd_572 : Cond.methodLink RX4 189 yX8_fillThing ∈ TB := tb_3 (List.mem_of_getElem? (i := 92) rfl) rfl
theorem mv_RX4_189 : Mv RX4 189 yX8_fillThing cX8_fillThing 5 none 4 := ⟨wd_572, wd_573, wd_574, wd_3, wd_575, (yd_X8_fillThing).1, (yd_X8_fillThing).2.1, (yd_X8_fillThing).2.2⟩
theorem wd_580 : Cond.methodLink RX4 193 yX8_fillRest ∈ TB := tb_3 (List.mem_of_getElem? (i := 100) rfl) rfl
theorem mv_RX4_193 : Mv RX4 193 yX8_fillRest cX8_fillRest 5 none 4 := ⟨wd_580, wd_581, wd_582, wd_3, wd_583, (yd_X8_fillRest).1, (yd_X8_fillRest).2.1, (yd_X8_fillRest).2.2⟩
theorem wd_589 : Cond.methodLink RX4 196 yX4_keep ∈ TB := tb_3 (List.mem_of_getElem? (i := 109) rfl) rfl
theorem wd_592 : Cond.code yX4_keep cX4_keep 5 none ∈ TB := tb_3 (List.mem_of_getElem? (i := 112) rfl) rfl
theorem yd_X4_keep : yX4_keep.cls ≠ "java/lang/invoke/MethodHandle" ∧ yX4_keep.cls ≠ "java/lang/invoke/VarHandle" ∧ (parseMethodDescriptor yX4_keep.desc).map (fun d => d.parameters.length) = some 2 := by decide +kernel
theorem wd_591 : Cond.instanceMethod yX4_keep ∈ TB := tb_3 (List.mem_of_getElem? (i := 111) rfl) rfl
theorem wp_18 : Cond.selects yX4_keep.cls yX4_keep yX4_keep ∈ TB := tbS (List.mem_of_getElem? (i := 18) (by decide +kernel)) rfl
theorem mv_RX4_196 : Mv RX4 196 yX4_keep cX4_keep 5 none 2 := ⟨wd_589, wd_591, wp_18, wd_6, wd_592, (yd_X4_keep).1, (yd_X4_keep).2.1, (yd_X4_keep).2.2⟩
theorem wd_605 : Cond.methodLink RX4 202 yX4_readSign ∈ TB := tb_3 (List.mem_of_getElem? (i := 125) rfl) rfl
theorem wd_608 : Cond.code yX4_readSign cX4_readSign 2 (some .int) ∈ TB := tb_3 (List.mem_of_getElem? (i := 128) rfl) rfl
theorem yd_X4_readSign : yX4_readSign.cls ≠ "java/lang/invoke/MethodHandle" ∧ yX4_readSign.cls ≠ "java/lang/invoke/VarHandle" ∧ (parseMethodDescriptor yX4_readSign.desc).map (fun d => d.parameters.length) = some 0 := by decide +kernel
theorem wd_607 : Cond.instanceMethod yX4_readSign ∈ TB := tb_3 (List.mem_of_getElem? (i := 127) rfl) rfl
theorem wp_21 : Cond.selects yX4_readSign.cls yX4_readSign yX4_readSign ∈ TB := tbS (List.mem_of_getElem? (i := 21) (by decide +kernel)) rfl
theorem mv_RX4_202 : Mv RX4 202 yX4_readSign cX4_readSign 2 (some .int) 0 := ⟨wd_605, wd_607, wp_21, wd_6, wd_608, (yd_X4_readSign).1, (yd_X4_readSign).2.1, (yd_X4_readSign).2.2⟩
theorem wd_593 : Cond.methodLink RX4 223 yX6_put ∈ TB := tb_3 (List.mem_of_getElem? (i := 113) rfl) rfl
theorem mv_RX4_223 : Mv RX4 223 yX6_put cX6_put 5 none 3 := ⟨wd_593, wd_577, wd_578, wd_4, wd_579, (yd_X6_put).1, (yd_X6_put).2.1, (yd_X6_put).2.2⟩
theorem wd_663 : Cond.methodLink RX4 229 yX4_wordSort ∈ TB := tb_3 (List.mem_of_getElem? (i := 183) rfl) rfl
theorem wd_666 : Cond.code yX4_wordSort cX4_wordSort 1 (some .int) ∈ TB := tb_3 (List.mem_of_getElem? (i := 186) rfl) rfl
theorem yd_X4_wordSort : yX4_wordSort.cls ≠ "java/lang/invoke/MethodHandle" ∧ yX4_wordSort.cls ≠ "java/lang/invoke/VarHandle" ∧ (parseMethodDescriptor yX4_wordSort.desc).map (fun d => d.parameters.length) = some 0 := by decide +kernel
theorem wd_665 : Cond.instanceMethod yX4_wordSort ∈ TB := tb_3 (List.mem_of_getElem? (i := 185) rfl) rfl
theorem wp_27 : Cond.selects yX4_wordSort.cls yX4_wordSort yX4_wordSort ∈ TB := tbS (List.mem_of_getElem? (i := 27) (by decide +kernel)) rfl
theorem mv_RX4_229 : Mv RX4 229 yX4_wordSort cX4_wordSort 1 (some .int) 0 := ⟨wd_663, wd_665, wp_27, wd_6, wd_666, (yd_X4_wordSort).1, (yd_X4_wordSort).2.1, (yd_X4_wordSort).2.2⟩
theorem wd_670 : Cond.methodLink RX4 232 yX4_readDistance ∈ TB := tb_3 (List.mem_of_getElem? (i := 190) rfl) rfl
theorem wd_673 : Cond.code yX4_readDistance cX4_readDistance 5 none ∈ TB := tb_3 (List.mem_of_getElem? (i := 193) rfl) rfl
theorem yd_X4_readDistance : yX4_readDistance.cls ≠ "java/lang/invoke/MethodHandle" ∧ yX4_readDistance.cls ≠ "java/lang/invoke/VarHandle" ∧ (parseMethodDescriptor yX4_readDistance.desc).map (fun d => d.parameters.length) = some 2 := by decide +kernel
theorem wd_672 : Cond.instanceMethod yX4_readDistance ∈ TB := tb_3 (List.mem_of_getElem? (i := 192) rfl) rfl
theorem wp_28 : Cond.selects yX4_readDistance.cls yX4_readDistance yX4_readDistance ∈ TB := tbS (List.mem_of_getElem? (i := 28) (by decide +kernel)) rfl
theorem mv_RX4_232 : Mv RX4 232 yX4_readDistance cX4_readDistance 5 none 2 := ⟨wd_670, wd_672, wp_28, wd_6, wd_673, (yd_X4_readDistance).1, (yd_X4_readDistance).2.1, (yd_X4_readDistance).2.2⟩
theorem wd_677 : Cond.methodLink RX4 247 yX4_readSilence ∈ TB := tb_3 (List.mem_of_getElem? (i := 197) rfl) rfl
theorem wd_680 : Cond.code yX4_readSilence cX4_readSilence 1 none ∈ TB := tb_3 (List.mem_of_getElem? (i := 200) rfl) rfl
theorem yd_X4_readSilence : yX4_readSilence.cls ≠ "java/lang/invoke/MethodHandle" ∧ yX4_readSilence.cls ≠ "java/lang/invoke/VarHandle" ∧ (parseMethodDescriptor yX4_readSilence.desc).map (fun d => d.parameters.length) = some 0 := by decide +kernel
theorem wd_679 : Cond.instanceMethod yX4_readSilence ∈ TB := tb_3 (List.mem_of_getElem? (i := 199) rfl) rfl
theorem wp_29 : Cond.selects yX4_readSilence.cls yX4_readSilence yX4_readSilence ∈ TB := tbS (List.mem_of_getElem? (i := 29) (by decide +kernel)) rfl
theorem mv_RX4_247 : Mv RX4 247 yX4_readSilence cX4_readSilence 1 none 0 := ⟨wd_677, wd_679, wp_29, wd_6, wd_680, (yd_X4_readSilence).1, (yd_X4_readSilence).2.1, (yd_X4_readSilence).2.2⟩
theorem wd_466 : Cond.methodLink RX4 268 yJ0_length_8abf5 ∈ TB := tb_2 (List.mem_of_getElem? (i := 226) rfl) rfl
theorem wd_469 : Cond.code yJ0_length_8abf5 cJ0_length_8abf5 1 (some .int) ∈ TB := tb_2 (List.mem_of_getElem? (i := 229) rfl) rfl
theorem wd_12 : Cond.initialized yJ0_length_8abf5.cls ∈ TB := tb_1 (List.mem_of_getElem? (i := 12) rfl) rfl
theorem yd_J0_length_8abf5 : yJ0_length_8abf5.cls ≠ "java/lang/invoke/MethodHandle" ∧ yJ0_length_8abf5.cls ≠ "java/lang/invoke/VarHandle" ∧ (parseMethodDescriptor yJ0_length_8abf5.desc).map (fun d => d.parameters.length) = some 0 := by decide +kernel
theorem wd_467 : Cond.instanceMethod yJ0_length_8abf5 ∈ TB := tb_2 (List.mem_of_getElem? (i := 227) rfl) rfl
theorem wd_468 : Cond.selects yJ0_length_8abf5.cls yJ0_length_8abf5 yJ0_length_8abf5 ∈ TB := tb_2 (List.mem_of_getElem? (i := 228) rfl) rfl
theorem mv_RX4_268 : Mv RX4 268 yJ0_length_8abf5 cJ0_length_8abf5 1 (some .int) 0 := ⟨wd_466, wd_467, wd_468, wd_12, wd_469, (yd_J0_length_8abf5).1, (yd_J0_length_8abf5).2.1, (yd_J0_length_8abf5).2.2⟩
theorem wd_436 : Cond.methodLink RX4 272 yX4_byteAt ∈ TB := tb_2 (List.mem_of_getElem? (i := 196) rfl) rfl
theorem wd_439 : Cond.code yX4_byteAt cX4_byteAt 2 (some .int) ∈ TB := tb_2 (List.mem_of_getElem? (i := 199) rfl) rfl
theorem yd_X4_byteAt : yX4_byteAt.cls ≠ "java/lang/invoke/MethodHandle" ∧ yX4_byteAt.cls ≠ "java/lang/invoke/VarHandle" ∧ (parseMethodDescriptor yX4_byteAt.desc).map (fun d => d.parameters.length) = some 1 := by decide +kernel
theorem wd_438 : Cond.instanceMethod yX4_byteAt ∈ TB := tb_2 (List.mem_of_getElem? (i := 198) rfl) rfl
theorem wp_2 : Cond.selects yX4_byteAt.cls yX4_byteAt yX4_byteAt ∈ TB := tbS (List.mem_of_getElem? (i := 2) (by decide +kernel)) rfl
theorem mv_RX4_272 : Mv RX4 272 yX4_byteAt cX4_byteAt 2 (some .int) 1 := ⟨wd_436, wd_438, wp_2, wd_6, wd_439, (yd_X4_byteAt).1, (yd_X4_byteAt).2.1, (yd_X4_byteAt).2.2⟩
theorem wd_476 : Cond.methodLink RX4 275 yJ0_charAt_5068e ∈ TB := tb_2 (List.mem_of_getElem? (i := 236) rfl) rfl
theorem wd_479 : Cond.code yJ0_charAt_5068e cJ0_charAt_5068e 2 (some .char) ∈ TB := tb_2 (List.mem_of_getElem? (i := 239) rfl) rfl
theorem yd_J0_charAt_5068e : yJ0_charAt_5068e.cls ≠ "java/lang/invoke/MethodHandle" ∧ yJ0_charAt_5068e.cls ≠ "java/lang/invoke/VarHandle" ∧ (parseMethodDescriptor yJ0_charAt_5068e.desc).map (fun d => d.parameters.length) = some 1 := by decide +kernel
theorem wd_477 : Cond.instanceMethod yJ0_charAt_5068e ∈ TB := tb_2 (List.mem_of_getElem? (i := 237) rfl) rfl
theorem wd_478 : Cond.selects yJ0_charAt_5068e.cls yJ0_charAt_5068e yJ0_charAt_5068e ∈ TB := tb_2 (List.mem_of_getElem? (i := 238) rfl) rfl
theorem mv_RX4_275 : Mv RX4 275 yJ0_charAt_5068e cJ0_charAt_5068e 2 (some .char) 1 := ⟨wd_476, wd_477, wd_478, wd_12, wd_479, (yd_J0_charAt_5068e).1, (yd_J0_charAt_5068e).2.1, (yd_J0_charAt_5068e).2.2⟩
theorem wd_440 : Cond.methodLink RX4 279 yX4_isBlank ∈ TB := tb_2 (List.mem_of_getElem? (i := 200) rfl) rfl
theorem wd_442 : Cond.code yX4_isBlank cX4_isBlank 1 (some .boolean) ∈ TB := tb_2 (List.mem_of_getElem? (i := 202) rfl) rfl
theorem yd_X4_isBlank : yX4_isBlank.cls ≠ "java/lang/invoke/MethodHandle" ∧ yX4_isBlank.cls ≠ "java/lang/invoke/VarHandle" ∧ (parseMethodDescriptor yX4_isBlank.desc).map (fun d => d.parameters.length) = some 1 := by decide +kernel
theorem wd_441 : Cond.static yX4_isBlank ∈ TB := tb_2 (List.mem_of_getElem? (i := 201) rfl) rfl
theorem mv_RX4_279 : Ms RX4 279 yX4_isBlank cX4_isBlank 1 (some .boolean) 1 := ⟨wd_440, wd_441, wd_6, wd_442, (yd_X4_isBlank).1, (yd_X4_isBlank).2.1, (yd_X4_isBlank).2.2⟩
theorem wd_443 : Cond.methodLink RX4 283 yX4_isLetter ∈ TB := tb_2 (List.mem_of_getElem? (i := 203) rfl) rfl
theorem wd_445 : Cond.code yX4_isLetter cX4_isLetter 1 (some .boolean) ∈ TB := tb_2 (List.mem_of_getElem? (i := 205) rfl) rfl
theorem yd_X4_isLetter : yX4_isLetter.cls ≠ "java/lang/invoke/MethodHandle" ∧ yX4_isLetter.cls ≠ "java/lang/invoke/VarHandle" ∧ (parseMethodDescriptor yX4_isLetter.desc).map (fun d => d.parameters.length) = some 1 := by decide +kernel
theorem wd_444 : Cond.static yX4_isLetter ∈ TB := tb_2 (List.mem_of_getElem? (i := 204) rfl) rfl
theorem mv_RX4_283 : Ms RX4 283 yX4_isLetter cX4_isLetter 1 (some .boolean) 1 := ⟨wd_443, wd_444, wd_6, wd_445, (yd_X4_isLetter).1, (yd_X4_isLetter).2.1, (yd_X4_isLetter).2.2⟩
theorem wd_446 : Cond.methodLink RX4 286 yX4_isDigit ∈ TB := tb_2 (List.mem_of_getElem? (i := 206) rfl) rfl
theorem wd_448 : Cond.code yX4_isDigit cX4_isDigit 1 (some .boolean) ∈ TB := tb_2 (List.mem_of_getElem? (i := 208) rfl) rfl
theorem yd_X4_isDigit : yX4_isDigit.cls ≠ "java/lang/invoke/MethodHandle" ∧ yX4_isDigit.cls ≠ "java/lang/invoke/VarHandle" ∧ (parseMethodDescriptor yX4_isDigit.desc).map (fun d => d.parameters.length) = some 1 := by decide +kernel
theorem wd_447 : Cond.static yX4_isDigit ∈ TB := tb_2 (List.mem_of_getElem? (i := 207) rfl) rfl
theorem mv_RX4_286 : Ms RX4 286 yX4_isDigit cX4_isDigit 1 (some .boolean) 1 := ⟨wd_446, wd_447, wd_6, wd_448, (yd_X4_isDigit).1, (yd_X4_isDigit).2.1, (yd_X4_isDigit).2.2⟩
theorem wd_257 : Cond.methodLink RX5 3 Lib.objectInit ∈ TB := tb_2 (List.mem_of_getElem? (i := 17) rfl) rfl
theorem mo_RX5_3 : Cond.methodLink RX5 3 Lib.objectInit ∈ TB ∧ Cond.instanceMethod Lib.objectInit ∈ TB ∧ Cond.code Lib.objectInit ⟨#[0xb1]⟩ 1 none ∈ TB := ⟨wd_257, wd_26, wd_27⟩
theorem wd_771 : Cond.methodLink RX5 46 yX8_hasThing ∈ TB := tb_4 (List.mem_of_getElem? (i := 51) rfl) rfl
theorem mv_RX5_46 : Mv RX5 46 yX8_hasThing cX8_hasThing 2 (some .boolean) 1 := ⟨wd_771, wd_712, wd_713, wd_3, wd_714, (yd_X8_hasThing).1, (yd_X8_hasThing).2.1, (yd_X8_hasThing).2.2⟩
theorem wd_772 : Cond.methodLink RX5 56 yX6_cell ∈ TB := tb_4 (List.mem_of_getElem? (i := 52) rfl) rfl
theorem mv_RX5_56 : Mv RX5 56 yX6_cell cX6_cell 4 (some .int) 2 := ⟨wd_772, wd_565, wd_566, wd_4, wd_567, (yd_X6_cell).1, (yd_X6_cell).2.1, (yd_X6_cell).2.2⟩
theorem wd_773 : Cond.methodLink RX5 74 yX8_growth ∈ TB := tb_4 (List.mem_of_getElem? (i := 53) rfl) rfl
theorem mv_RX5_74 : Mv RX5 74 yX8_growth cX8_growth 6 (some .int) 2 := ⟨wd_773, wd_774, wd_775, wd_3, wd_776, (yd_X8_growth).1, (yd_X8_growth).2.1, (yd_X8_growth).2.2⟩
theorem wd_778 : Cond.methodLink RX5 80 yX8_stands ∈ TB := tb_4 (List.mem_of_getElem? (i := 58) rfl) rfl
theorem wd_781 : Cond.code yX8_stands cX8_stands 4 (some .boolean) ∈ TB := tb_4 (List.mem_of_getElem? (i := 61) rfl) rfl
theorem yd_X8_stands : yX8_stands.cls ≠ "java/lang/invoke/MethodHandle" ∧ yX8_stands.cls ≠ "java/lang/invoke/VarHandle" ∧ (parseMethodDescriptor yX8_stands.desc).map (fun d => d.parameters.length) = some 2 := by decide +kernel
theorem wd_779 : Cond.instanceMethod yX8_stands ∈ TB := tb_4 (List.mem_of_getElem? (i := 59) rfl) rfl
theorem wd_780 : Cond.selects yX8_stands.cls yX8_stands yX8_stands ∈ TB := tb_4 (List.mem_of_getElem? (i := 60) rfl) rfl
theorem mv_RX5_80 : Mv RX5 80 yX8_stands cX8_stands 4 (some .boolean) 2 := ⟨wd_778, wd_779, wd_780, wd_3, wd_781, (yd_X8_stands).1, (yd_X8_stands).2.1, (yd_X8_stands).2.2⟩
theorem wd_933 : Cond.methodLink RX5 84 yX5_bothStand ∈ TB := tb_4 (List.mem_of_getElem? (i := 213) rfl) rfl
theorem mv_RX5_84 : Mv RX5 84 yX5_bothStand cX5_bothStand 3 (some .boolean) 2 := ⟨wd_933, wd_821, wd_822, wd_7, wd_823, (yd_X5_bothStand).1, (yd_X5_bothStand).2.1, (yd_X5_bothStand).2.2⟩
theorem wd_881 : Cond.methodLink RX5 87 yX5_body ∈ TB := tb_4 (List.mem_of_getElem? (i := 161) rfl) rfl
theorem mv_RX5_87 : Mv RX5 87 yX5_body cX5_body 2 (some (.object "FarTown$Body")) 1 := ⟨wd_881, wd_783, wd_784, wd_7, wd_785, (yd_X5_body).1, (yd_X5_body).2.1, (yd_X5_body).2.2⟩
theorem wd_934 : Cond.methodLink RX5 91 yX5_clash ∈ TB := tb_4 (List.mem_of_getElem? (i := 214) rfl) rfl
theorem mv_RX5_91 : Mv RX5 91 yX5_clash cX5_clash 4 (some .boolean) 2 := ⟨wd_934, wd_935, wd_936, wd_7, wd_937, (yd_X5_clash).1, (yd_X5_clash).2.1, (yd_X5_clash).2.2⟩
theorem wd_1030 : Cond.methodLink RX5 95 yX5_foes ∈ TB := tb_5 (List.mem_of_getElem? (i := 70) rfl) rfl
theorem mv_RX5_95 : Mv RX5 95 yX5_foes cX5_foes 3 (some .boolean) 2 := ⟨wd_1030, wd_930, wd_931, wd_7, wd_932, (yd_X5_foes).1, (yd_X5_foes).2.1, (yd_X5_foes).2.2⟩
theorem wd_938 : Cond.methodLink RX5 106 yX5_barsTwo ∈ TB := tb_4 (List.mem_of_getElem? (i := 218) rfl) rfl
theorem mv_RX5_106 : Mv RX5 106 yX5_barsTwo cX5_barsTwo 10 (some .boolean) 3 := ⟨wd_938, wd_834, wd_835, wd_7, wd_836, (yd_X5_barsTwo).1, (yd_X5_barsTwo).2.1, (yd_X5_barsTwo).2.2⟩
theorem wd_837 : Cond.methodLink RX5 110 yX5_sortHolds ∈ TB := tb_4 (List.mem_of_getElem? (i := 117) rfl) rfl
theorem wd_840 : Cond.code yX5_sortHolds cX5_sortHolds 7 (some .boolean) ∈ TB := tb_4 (List.mem_of_getElem? (i := 120) rfl) rfl
theorem yd_X5_sortHolds : yX5_sortHolds.cls ≠ "java/lang/invoke/MethodHandle" ∧ yX5_sortHolds.cls ≠ "java/lang/invoke/VarHandle" ∧ (parseMethodDescriptor yX5_sortHolds.desc).map (fun d => d.parameters.length) = some 4 := by decide +kernel
theorem wd_839 : Cond.instanceMethod yX5_sortHolds ∈ TB := tb_4 (List.mem_of_getElem? (i := 119) rfl) rfl
theorem wp_33 : Cond.selects yX5_sortHolds.cls yX5_sortHolds yX5_sortHolds ∈ TB := tbS (List.mem_of_getElem? (i := 33) (by decide +kernel)) rfl
theorem mv_RX5_110 : Mv RX5 110 yX5_sortHolds cX5_sortHolds 7 (some .boolean) 4 := ⟨wd_837, wd_839, wp_33, wd_7, wd_840, (yd_X5_sortHolds).1, (yd_X5_sortHolds).2.1, (yd_X5_sortHolds).2.2⟩
theorem wd_790 : Cond.methodLink RX5 117 yX5_linesBetween ∈ TB := tb_4 (List.mem_of_getElem? (i := 70) rfl) rfl
theorem wd_793 : Cond.code yX5_linesBetween cX5_linesBetween 11 (some .int) ∈ TB := tb_4 (List.mem_of_getElem? (i := 73) rfl) rfl
theorem yd_X5_linesBetween : yX5_linesBetween.cls ≠ "java/lang/invoke/MethodHandle" ∧ yX5_linesBetween.cls ≠ "java/lang/invoke/VarHandle" ∧ (parseMethodDescriptor yX5_linesBetween.desc).map (fun d => d.parameters.length) = some 4 := by decide +kernel
theorem wd_792 : Cond.instanceMethod yX5_linesBetween ∈ TB := tb_4 (List.mem_of_getElem? (i := 72) rfl) rfl
theorem wp_30 : Cond.selects yX5_linesBetween.cls yX5_linesBetween yX5_linesBetween ∈ TB := tbS (List.mem_of_getElem? (i := 30) (by decide +kernel)) rfl
theorem mv_RX5_117 : Mv RX5 117 yX5_linesBetween cX5_linesBetween 11 (some .int) 4 := ⟨wd_790, wd_792, wp_30, wd_7, wd_793, (yd_X5_linesBetween).1, (yd_X5_linesBetween).2.1, (yd_X5_linesBetween).2.2⟩
theorem wd_841 : Cond.methodLink RX5 121 yX8_hoursDownwind ∈ TB := tb_4 (List.mem_of_getElem? (i := 121) rfl) rfl
theorem mv_RX5_121 : Mv RX5 121 yX8_hoursDownwind cX8_hoursDownwind 9 (some .int) 3 := ⟨wd_841, wd_842, wd_843, wd_3, wd_844, (yd_X8_hoursDownwind).1, (yd_X8_hoursDownwind).2.1, (yd_X8_hoursDownwind).2.2⟩
theorem wd_849 : Cond.methodLink RX5 131 yX0_seesAhead ∈ TB := tb_4 (List.mem_of_getElem? (i := 129) rfl) rfl
theorem wd_852 : Cond.code yX0_seesAhead cX0_seesAhead 6 (some .boolean) ∈ TB := tb_4 (List.mem_of_getElem? (i := 132) rfl) rfl
theorem wd_8 : Cond.initialized yX0_seesAhead.cls ∈ TB := tb_1 (List.mem_of_getElem? (i := 8) rfl) rfl
theorem yd_X0_seesAhead : yX0_seesAhead.cls ≠ "java/lang/invoke/MethodHandle" ∧ yX0_seesAhead.cls ≠ "java/lang/invoke/VarHandle" ∧ (parseMethodDescriptor yX0_seesAhead.desc).map (fun d => d.parameters.length) = some 1 := by decide +kernel
theorem wd_850 : Cond.instanceMethod yX0_seesAhead ∈ TB := tb_4 (List.mem_of_getElem? (i := 130) rfl) rfl
theorem wd_851 : Cond.selects yX0_seesAhead.cls yX0_seesAhead yX0_seesAhead ∈ TB := tb_4 (List.mem_of_getElem? (i := 131) rfl) rfl
theorem mv_RX5_131 : Mv RX5 131 yX0_seesAhead cX0_seesAhead 6 (some .boolean) 1 := ⟨wd_849, wd_850, wd_851, wd_8, wd_852, (yd_X0_seesAhead).1, (yd_X0_seesAhead).2.1, (yd_X0_seesAhead).2.2⟩
theorem wd_794 : Cond.methodLink RX5 138 yX5_cuts ∈ TB := tb_4 (List.mem_of_getElem? (i := 74) rfl) rfl
theorem wd_796 : Cond.code yX5_cuts cX5_cuts 17 (some .boolean) ∈ TB := tb_4 (List.mem_of_getElem? (i := 76) rfl) rfl
theorem yd_X5_cuts : yX5_cuts.cls ≠ "java/lang/invoke/MethodHandle" ∧ yX5_cuts.cls ≠ "java/lang/invoke/VarHandle" ∧ (parseMethodDescriptor yX5_cuts.desc).map (fun d => d.parameters.length) = some 6 := by decide +kernel
theorem wd_795 : Cond.static yX5_cuts ∈ TB := tb_4 (List.mem_of_getElem? (i := 75) rfl) rfl
theorem mv_RX5_138 : Ms RX5 138 yX5_cuts cX5_cuts 17 (some .boolean) 6 := ⟨wd_794, wd_795, wd_7, wd_796, (yd_X5_cuts).1, (yd_X5_cuts).2.1, (yd_X5_cuts).2.2⟩
theorem wd_48 : Cond.methodLink RX6 3 Lib.objectInit ∈ TB := tb_1 (List.mem_of_getElem? (i := 48) rfl) rfl
theorem mo_RX6_3 : Cond.methodLink RX6 3 Lib.objectInit ∈ TB ∧ Cond.instanceMethod Lib.objectInit ∈ TB ∧ Cond.code Lib.objectInit ⟨#[0xb1]⟩ 1 none ∈ TB := ⟨wd_48, wd_26, wd_27⟩
theorem wd_640 : Cond.methodLink RX6 25 arraycopyName ∈ TB := tb_3 (List.mem_of_getElem? (i := 160) rfl) rfl
theorem wd_642 : Cond.native arraycopyName ∈ TB := tb_3 (List.mem_of_getElem? (i := 162) rfl) rfl
theorem wd_641 : Cond.static arraycopyName ∈ TB := tb_3 (List.mem_of_getElem? (i := 161) rfl) rfl
theorem wd_16 : Cond.initialized "java/lang/System" ∈ TB := tb_1 (List.mem_of_getElem? (i := 16) rfl) rfl
theorem mc_RX6_25 : Cond.methodLink RX6 25 arraycopyName ∈ TB ∧ Cond.native arraycopyName ∈ TB ∧ Cond.static arraycopyName ∈ TB ∧ Cond.initialized "java/lang/System" ∈ TB := ⟨wd_640, wd_642, wd_641, wd_16⟩
theorem wd_33 : Cond.methodLink RX7 3 Lib.objectInit ∈ TB := tb_1 (List.mem_of_getElem? (i := 33) rfl) rfl
theorem mo_RX7_3 : Cond.methodLink RX7 3 Lib.objectInit ∈ TB ∧ Cond.instanceMethod Lib.objectInit ∈ TB ∧ Cond.code Lib.objectInit ⟨#[0xb1]⟩ 1 none ∈ TB := ⟨wd_33, wd_26, wd_27⟩
theorem wd_39 : Cond.methodLink RX7 31 yX8_init ∈ TB := tb_1 (List.mem_of_getElem? (i := 39) rfl) rfl
theorem mv_RX7_31 : Mi RX7 31 yX8_init cX8_init 1 0 := ⟨wd_39, wd_40, wd_3, wd_41, rfl, (yd_X8_init).1, (yd_X8_init).2.1, (yd_X8_init).2.2⟩
theorem wd_137 : Cond.methodLink RX7 32 yX2_init ∈ TB := tb_1 (List.mem_of_getElem? (i := 137) rfl) rfl
theorem mv_RX7_32 : Mi RX7 32 yX2_init cX2_init 1 0 := ⟨wd_137, wd_138, wd_5, wd_139, rfl, (yd_X2_init).1, (yd_X2_init).2.1, (yd_X2_init).2.2⟩
theorem wd_413 : Cond.methodLink RX7 36 yX7_setFault ∈ TB := tb_2 (List.mem_of_getElem? (i := 173) rfl) rfl
theorem mv_RX7_36 : Mv RX7 36 yX7_setFault cX7_setFault 3 none 2 := ⟨wd_413, wd_414, wd_415, wd_2, wd_416, (yd_X7_setFault).1, (yd_X7_setFault).2.1, (yd_X7_setFault).2.2⟩
theorem wd_698 : Cond.methodLink RX7 46 yX7_townSeat ∈ TB := tb_3 (List.mem_of_getElem? (i := 218) rfl) rfl
theorem mv_RX7_46 : Mv RX7 46 yX7_townSeat cX7_townSeat 2 (some (.object "FarTown$Town")) 1 := ⟨wd_698, wd_421, wd_422, wd_2, wd_423, (yd_X7_townSeat).1, (yd_X7_townSeat).2.1, (yd_X7_townSeat).2.2⟩
theorem wd_724 : Cond.methodLink RX7 53 yX7_lawSeat ∈ TB := tb_4 (List.mem_of_getElem? (i := 4) rfl) rfl
theorem mv_RX7_53 : Mv RX7 53 yX7_lawSeat cX7_lawSeat 2 (some (.object "FarTown$Law")) 1 := ⟨wd_724, wd_648, wd_649, wd_2, wd_650, (yd_X7_lawSeat).1, (yd_X7_lawSeat).2.1, (yd_X7_lawSeat).2.2⟩
theorem wd_1133 : Cond.methodLink RX7 57 yX8_take ∈ TB := tb_5 (List.mem_of_getElem? (i := 173) rfl) rfl
theorem mv_RX7_57 : Mv RX7 57 yX8_take cX8_take 3 none 1 := ⟨wd_1133, wd_633, wd_634, wd_3, wd_635, (yd_X8_take).1, (yd_X8_take).2.1, (yd_X8_take).2.2⟩
theorem wd_1134 : Cond.methodLink RX7 61 yX2_take ∈ TB := tb_5 (List.mem_of_getElem? (i := 174) rfl) rfl
theorem mv_RX7_61 : Mv RX7 61 yX2_take cX2_take 2 none 1 := ⟨wd_1134, wd_682, wd_683, wd_5, wd_684, (yd_X2_take).1, (yd_X2_take).2.1, (yd_X2_take).2.2⟩
theorem wd_42 : Cond.methodLink RX8 3 Lib.objectInit ∈ TB := tb_1 (List.mem_of_getElem? (i := 42) rfl) rfl
theorem mo_RX8_3 : Cond.methodLink RX8 3 Lib.objectInit ∈ TB ∧ Cond.instanceMethod Lib.objectInit ∈ TB ∧ Cond.code Lib.objectInit ⟨#[0xb1]⟩ 1 none ∈ TB := ⟨wd_42, wd_26, wd_27⟩
theorem wd_45 : Cond.methodLink RX8 11 yX6_init ∈ TB := tb_1 (List.mem_of_getElem? (i := 45) rfl) rfl
theorem mv_RX8_11 : Mi RX8 11 yX6_init cX6_init 3 2 := ⟨wd_45, wd_46, wd_4, wd_47, rfl, (yd_X6_init).1, (yd_X6_init).2.1, (yd_X6_init).2.2⟩
theorem wd_636 : Cond.methodLink RX8 58 yX6_take ∈ TB := tb_3 (List.mem_of_getElem? (i := 156) rfl) rfl
theorem mv_RX8_58 : Mv RX8 58 yX6_take cX6_take 2 none 1 := ⟨wd_636, wd_637, wd_638, wd_4, wd_639, (yd_X6_take).1, (yd_X6_take).2.1, (yd_X6_take).2.2⟩
theorem wd_766 : Cond.methodLink RX8 62 yX8_hasThing ∈ TB := tb_4 (List.mem_of_getElem? (i := 46) rfl) rfl
theorem mv_RX8_62 : Mv RX8 62 yX8_hasThing cX8_hasThing 2 (some .boolean) 1 := ⟨wd_766, wd_712, wd_713, wd_3, wd_714, (yd_X8_hasThing).1, (yd_X8_hasThing).2.1, (yd_X8_hasThing).2.2⟩
theorem wd_564 : Cond.methodLink RX8 66 yX6_cell ∈ TB := tb_3 (List.mem_of_getElem? (i := 84) rfl) rfl
theorem mv_RX8_66 : Mv RX8 66 yX6_cell cX6_cell 4 (some .int) 2 := ⟨wd_564, wd_565, wd_566, wd_4, wd_567, (yd_X6_cell).1, (yd_X6_cell).2.1, (yd_X6_cell).2.2⟩
theorem wd_576 : Cond.methodLink RX8 70 yX6_put ∈ TB := tb_3 (List.mem_of_getElem? (i := 96) rfl) rfl
theorem mv_RX8_70 : Mv RX8 70 yX6_put cX6_put 5 none 3 := ⟨wd_576, wd_577, wd_578, wd_4, wd_579, (yd_X6_put).1, (yd_X6_put).2.1, (yd_X6_put).2.2⟩
theorem wd_777 : Cond.methodLink RX8 74 yX8_growsBy ∈ TB := tb_4 (List.mem_of_getElem? (i := 57) rfl) rfl
theorem mv_RX8_74 : Mv RX8 74 yX8_growsBy cX8_growsBy 2 (some .int) 1 := ⟨wd_777, wd_704, wd_705, wd_3, wd_706, (yd_X8_growsBy).1, (yd_X8_growsBy).2.1, (yd_X8_growsBy).2.2⟩
theorem wd_928 : Cond.methodLink RX8 78 yX8_growth ∈ TB := tb_4 (List.mem_of_getElem? (i := 208) rfl) rfl
theorem mv_RX8_78 : Mv RX8 78 yX8_growth cX8_growth 6 (some .int) 2 := ⟨wd_928, wd_774, wd_775, wd_3, wd_776, (yd_X8_growth).1, (yd_X8_growth).2.1, (yd_X8_growth).2.2⟩
theorem wd_22 : Cond.methodLink RL 9 yX9_init ∈ TB := tb_1 (List.mem_of_getElem? (i := 22) rfl) rfl
theorem wd_24 : Cond.code yX9_init cX9_init 1 none ∈ TB := tb_1 (List.mem_of_getElem? (i := 24) rfl) rfl
theorem yd_X9_init : yX9_init.cls ≠ "java/lang/invoke/MethodHandle" ∧ yX9_init.cls ≠ "java/lang/invoke/VarHandle" ∧ (parseMethodDescriptor yX9_init.desc).map (fun d => d.parameters.length) = some 0 := by decide +kernel
theorem wd_23 : Cond.instanceMethod yX9_init ∈ TB := tb_1 (List.mem_of_getElem? (i := 23) rfl) rfl
theorem mv_RL_9 : Mi RL 9 yX9_init cX9_init 1 0 := ⟨wd_22, wd_23, wd_1, wd_24, rfl, (yd_X9_init).1, (yd_X9_init).2.1, (yd_X9_init).2.2⟩
theorem wd_1141 : Cond.methodLink RL 12 yX10_init ∈ TB := tb_5 (List.mem_of_getElem? (i := 181) rfl) rfl
theorem wd_1143 : Cond.code yX10_init cX10_init 1 none ∈ TB := tb_5 (List.mem_of_getElem? (i := 183) rfl) rfl
theorem wd_11 : Cond.initialized yX10_init.cls ∈ TB := tb_1 (List.mem_of_getElem? (i := 11) rfl) rfl
theorem yd_X10_init : yX10_init.cls ≠ "java/lang/invoke/MethodHandle" ∧ yX10_init.cls ≠ "java/lang/invoke/VarHandle" ∧ (parseMethodDescriptor yX10_init.desc).map (fun d => d.parameters.length) = some 0 := by decide +kernel
theorem wd_1142 : Cond.instanceMethod yX10_init ∈ TB := tb_5 (List.mem_of_getElem? (i := 182) rfl) rfl
theorem mv_RL_12 : Mi RL 12 yX10_init cX10_init 1 0 := ⟨wd_1141, wd_1142, wd_11, wd_1143, rfl, (yd_X10_init).1, (yd_X10_init).2.1, (yd_X10_init).2.2⟩
theorem wd_393 : Cond.methodLink RL 13 yX9_feed ∈ TB := tb_2 (List.mem_of_getElem? (i := 153) rfl) rfl
theorem wd_396 : Cond.code yX9_feed cX9_feed 6 (some .int) ∈ TB := tb_2 (List.mem_of_getElem? (i := 156) rfl) rfl
theorem yd_X9_feed : yX9_feed.cls ≠ "java/lang/invoke/MethodHandle" ∧ yX9_feed.cls ≠ "java/lang/invoke/VarHandle" ∧ (parseMethodDescriptor yX9_feed.desc).map (fun d => d.parameters.length) = some 5 := by decide +kernel
theorem wd_394 : Cond.instanceMethod yX9_feed ∈ TB := tb_2 (List.mem_of_getElem? (i := 154) rfl) rfl
theorem wd_395 : Cond.selects yX9_feed.cls yX9_feed yX9_feed ∈ TB := tb_2 (List.mem_of_getElem? (i := 155) rfl) rfl
theorem mv_RL_13 : Mv RL 13 yX9_feed cX9_feed 6 (some .int) 5 := ⟨wd_393, wd_394, wd_395, wd_1, wd_396, (yd_X9_feed).1, (yd_X9_feed).2.1, (yd_X9_feed).2.2⟩
theorem wd_1398 : Cond.methodLink RL 17 yX10_feed ∈ TB := tb_6 (List.mem_of_getElem? (i := 198) rfl) rfl
theorem wd_1401 : Cond.code yX10_feed cX10_feed 6 (some .int) ∈ TB := tb_6 (List.mem_of_getElem? (i := 201) rfl) rfl
theorem yd_X10_feed : yX10_feed.cls ≠ "java/lang/invoke/MethodHandle" ∧ yX10_feed.cls ≠ "java/lang/invoke/VarHandle" ∧ (parseMethodDescriptor yX10_feed.desc).map (fun d => d.parameters.length) = some 5 := by decide +kernel
theorem wd_1399 : Cond.instanceMethod yX10_feed ∈ TB := tb_6 (List.mem_of_getElem? (i := 199) rfl) rfl
theorem wd_1400 : Cond.selects yX10_feed.cls yX10_feed yX10_feed ∈ TB := tb_6 (List.mem_of_getElem? (i := 200) rfl) rfl
theorem mv_RL_17 : Mv RL 17 yX10_feed cX10_feed 6 (some .int) 5 := ⟨wd_1398, wd_1399, wd_1400, wd_11, wd_1401, (yd_X10_feed).1, (yd_X10_feed).2.1, (yd_X10_feed).2.2⟩
theorem wd_401 : Cond.methodLink RL 18 yX9_end ∈ TB := tb_2 (List.mem_of_getElem? (i := 161) rfl) rfl
theorem wd_404 : Cond.code yX9_end cX9_end 2 (some .int) ∈ TB := tb_2 (List.mem_of_getElem? (i := 164) rfl) rfl
theorem yd_X9_end : yX9_end.cls ≠ "java/lang/invoke/MethodHandle" ∧ yX9_end.cls ≠ "java/lang/invoke/VarHandle" ∧ (parseMethodDescriptor yX9_end.desc).map (fun d => d.parameters.length) = some 1 := by decide +kernel
theorem wd_402 : Cond.instanceMethod yX9_end ∈ TB := tb_2 (List.mem_of_getElem? (i := 162) rfl) rfl
theorem wd_403 : Cond.selects yX9_end.cls yX9_end yX9_end ∈ TB := tb_2 (List.mem_of_getElem? (i := 163) rfl) rfl
theorem mv_RL_18 : Mv RL 18 yX9_end cX9_end 2 (some .int) 1 := ⟨wd_401, wd_402, wd_403, wd_1, wd_404, (yd_X9_end).1, (yd_X9_end).2.1, (yd_X9_end).2.2⟩
theorem wd_1406 : Cond.methodLink RL 22 yX10_end ∈ TB := tb_6 (List.mem_of_getElem? (i := 206) rfl) rfl
theorem wd_1409 : Cond.code yX10_end cX10_end 2 (some .int) ∈ TB := tb_6 (List.mem_of_getElem? (i := 209) rfl) rfl
theorem yd_X10_end : yX10_end.cls ≠ "java/lang/invoke/MethodHandle" ∧ yX10_end.cls ≠ "java/lang/invoke/VarHandle" ∧ (parseMethodDescriptor yX10_end.desc).map (fun d => d.parameters.length) = some 1 := by decide +kernel
theorem wd_1407 : Cond.instanceMethod yX10_end ∈ TB := tb_6 (List.mem_of_getElem? (i := 207) rfl) rfl
theorem wd_1408 : Cond.selects yX10_end.cls yX10_end yX10_end ∈ TB := tb_6 (List.mem_of_getElem? (i := 208) rfl) rfl
theorem mv_RL_22 : Mv RL 22 yX10_end cX10_end 2 (some .int) 1 := ⟨wd_1406, wd_1407, wd_1408, wd_11, wd_1409, (yd_X10_end).1, (yd_X10_end).2.1, (yd_X10_end).2.2⟩
theorem wd_405 : Cond.methodLink RL 23 yX9_town ∈ TB := tb_2 (List.mem_of_getElem? (i := 165) rfl) rfl
theorem wd_408 : Cond.code yX9_town cX9_town 5 (some .int) ∈ TB := tb_2 (List.mem_of_getElem? (i := 168) rfl) rfl
theorem yd_X9_town : yX9_town.cls ≠ "java/lang/invoke/MethodHandle" ∧ yX9_town.cls ≠ "java/lang/invoke/VarHandle" ∧ (parseMethodDescriptor yX9_town.desc).map (fun d => d.parameters.length) = some 1 := by decide +kernel
theorem wd_406 : Cond.instanceMethod yX9_town ∈ TB := tb_2 (List.mem_of_getElem? (i := 166) rfl) rfl
theorem wd_407 : Cond.selects yX9_town.cls yX9_town yX9_town ∈ TB := tb_2 (List.mem_of_getElem? (i := 167) rfl) rfl
theorem mv_RL_23 : Mv RL 23 yX9_town cX9_town 5 (some .int) 1 := ⟨wd_405, wd_406, wd_407, wd_1, wd_408, (yd_X9_town).1, (yd_X9_town).2.1, (yd_X9_town).2.2⟩
theorem wd_1413 : Cond.methodLink RL 26 yX10_town ∈ TB := tb_6 (List.mem_of_getElem? (i := 213) rfl) rfl
theorem wd_1416 : Cond.code yX10_town cX10_town 5 (some .int) ∈ TB := tb_6 (List.mem_of_getElem? (i := 216) rfl) rfl
theorem yd_X10_town : yX10_town.cls ≠ "java/lang/invoke/MethodHandle" ∧ yX10_town.cls ≠ "java/lang/invoke/VarHandle" ∧ (parseMethodDescriptor yX10_town.desc).map (fun d => d.parameters.length) = some 1 := by decide +kernel
theorem wd_1414 : Cond.instanceMethod yX10_town ∈ TB := tb_6 (List.mem_of_getElem? (i := 214) rfl) rfl
theorem wd_1415 : Cond.selects yX10_town.cls yX10_town yX10_town ∈ TB := tb_6 (List.mem_of_getElem? (i := 215) rfl) rfl
theorem mv_RL_26 : Mv RL 26 yX10_town cX10_town 5 (some .int) 1 := ⟨wd_1413, wd_1414, wd_1415, wd_11, wd_1416, (yd_X10_town).1, (yd_X10_town).2.1, (yd_X10_town).2.2⟩
theorem wd_643 : Cond.methodLink RL 27 yX9_law ∈ TB := tb_3 (List.mem_of_getElem? (i := 163) rfl) rfl
theorem wd_646 : Cond.code yX9_law cX9_law 5 (some .int) ∈ TB := tb_3 (List.mem_of_getElem? (i := 166) rfl) rfl
theorem yd_X9_law : yX9_law.cls ≠ "java/lang/invoke/MethodHandle" ∧ yX9_law.cls ≠ "java/lang/invoke/VarHandle" ∧ (parseMethodDescriptor yX9_law.desc).map (fun d => d.parameters.length) = some 1 := by decide +kernel
theorem wd_644 : Cond.instanceMethod yX9_law ∈ TB := tb_3 (List.mem_of_getElem? (i := 164) rfl) rfl
theorem wd_645 : Cond.selects yX9_law.cls yX9_law yX9_law ∈ TB := tb_3 (List.mem_of_getElem? (i := 165) rfl) rfl
theorem mv_RL_27 : Mv RL 27 yX9_law cX9_law 5 (some .int) 1 := ⟨wd_643, wd_644, wd_645, wd_1, wd_646, (yd_X9_law).1, (yd_X9_law).2.1, (yd_X9_law).2.2⟩
theorem wd_1514 : Cond.methodLink RL 30 yX10_law ∈ TB := tb_7 (List.mem_of_getElem? (i := 74) rfl) rfl
theorem wd_1517 : Cond.code yX10_law cX10_law 5 (some .int) ∈ TB := tb_7 (List.mem_of_getElem? (i := 77) rfl) rfl
theorem yd_X10_law : yX10_law.cls ≠ "java/lang/invoke/MethodHandle" ∧ yX10_law.cls ≠ "java/lang/invoke/VarHandle" ∧ (parseMethodDescriptor yX10_law.desc).map (fun d => d.parameters.length) = some 1 := by decide +kernel
theorem wd_1515 : Cond.instanceMethod yX10_law ∈ TB := tb_7 (List.mem_of_getElem? (i := 75) rfl) rfl
theorem wd_1516 : Cond.selects yX10_law.cls yX10_law yX10_law ∈ TB := tb_7 (List.mem_of_getElem? (i := 76) rfl) rfl
theorem mv_RL_30 : Mv RL 30 yX10_law cX10_law 5 (some .int) 1 := ⟨wd_1514, wd_1515, wd_1516, wd_11, wd_1517, (yd_X10_law).1, (yd_X10_law).2.1, (yd_X10_law).2.2⟩
theorem wd_686 : Cond.methodLink RL 31 yX9_fault ∈ TB := tb_3 (List.mem_of_getElem? (i := 206) rfl) rfl
theorem wd_689 : Cond.code yX9_fault cX9_fault 2 (some .int) ∈ TB := tb_3 (List.mem_of_getElem? (i := 209) rfl) rfl
theorem yd_X9_fault : yX9_fault.cls ≠ "java/lang/invoke/MethodHandle" ∧ yX9_fault.cls ≠ "java/lang/invoke/VarHandle" ∧ (parseMethodDescriptor yX9_fault.desc).map (fun d => d.parameters.length) = some 1 := by decide +kernel
theorem wd_687 : Cond.instanceMethod yX9_fault ∈ TB := tb_3 (List.mem_of_getElem? (i := 207) rfl) rfl
theorem wd_688 : Cond.selects yX9_fault.cls yX9_fault yX9_fault ∈ TB := tb_3 (List.mem_of_getElem? (i := 208) rfl) rfl
theorem mv_RL_31 : Mv RL 31 yX9_fault cX9_fault 2 (some .int) 1 := ⟨wd_686, wd_687, wd_688, wd_1, wd_689, (yd_X9_fault).1, (yd_X9_fault).2.1, (yd_X9_fault).2.2⟩
theorem wd_1536 : Cond.methodLink RL 34 yX10_fault ∈ TB := tb_7 (List.mem_of_getElem? (i := 96) rfl) rfl
theorem wd_1539 : Cond.code yX10_fault cX10_fault 2 (some .int) ∈ TB := tb_7 (List.mem_of_getElem? (i := 99) rfl) rfl
theorem yd_X10_fault : yX10_fault.cls ≠ "java/lang/invoke/MethodHandle" ∧ yX10_fault.cls ≠ "java/lang/invoke/VarHandle" ∧ (parseMethodDescriptor yX10_fault.desc).map (fun d => d.parameters.length) = some 1 := by decide +kernel
theorem wd_1537 : Cond.instanceMethod yX10_fault ∈ TB := tb_7 (List.mem_of_getElem? (i := 97) rfl) rfl
theorem wd_1538 : Cond.selects yX10_fault.cls yX10_fault yX10_fault ∈ TB := tb_7 (List.mem_of_getElem? (i := 98) rfl) rfl
theorem mv_RL_34 : Mv RL 34 yX10_fault cX10_fault 2 (some .int) 1 := ⟨wd_1536, wd_1537, wd_1538, wd_11, wd_1539, (yd_X10_fault).1, (yd_X10_fault).2.1, (yd_X10_fault).2.2⟩
theorem wd_690 : Cond.methodLink RL 35 yX9_about ∈ TB := tb_3 (List.mem_of_getElem? (i := 210) rfl) rfl
theorem wd_693 : Cond.code yX9_about cX9_about 4 (some .int) ∈ TB := tb_3 (List.mem_of_getElem? (i := 213) rfl) rfl
theorem yd_X9_about : yX9_about.cls ≠ "java/lang/invoke/MethodHandle" ∧ yX9_about.cls ≠ "java/lang/invoke/VarHandle" ∧ (parseMethodDescriptor yX9_about.desc).map (fun d => d.parameters.length) = some 2 := by decide +kernel
theorem wd_691 : Cond.instanceMethod yX9_about ∈ TB := tb_3 (List.mem_of_getElem? (i := 211) rfl) rfl
theorem wd_692 : Cond.selects yX9_about.cls yX9_about yX9_about ∈ TB := tb_3 (List.mem_of_getElem? (i := 212) rfl) rfl
theorem mv_RL_35 : Mv RL 35 yX9_about cX9_about 4 (some .int) 2 := ⟨wd_690, wd_691, wd_692, wd_1, wd_693, (yd_X9_about).1, (yd_X9_about).2.1, (yd_X9_about).2.2⟩
theorem wd_1540 : Cond.methodLink RL 39 yX10_about ∈ TB := tb_7 (List.mem_of_getElem? (i := 100) rfl) rfl
theorem wd_1543 : Cond.code yX10_about cX10_about 3 (some .int) ∈ TB := tb_7 (List.mem_of_getElem? (i := 103) rfl) rfl
theorem yd_X10_about : yX10_about.cls ≠ "java/lang/invoke/MethodHandle" ∧ yX10_about.cls ≠ "java/lang/invoke/VarHandle" ∧ (parseMethodDescriptor yX10_about.desc).map (fun d => d.parameters.length) = some 2 := by decide +kernel
theorem wd_1541 : Cond.instanceMethod yX10_about ∈ TB := tb_7 (List.mem_of_getElem? (i := 101) rfl) rfl
theorem wd_1542 : Cond.selects yX10_about.cls yX10_about yX10_about ∈ TB := tb_7 (List.mem_of_getElem? (i := 102) rfl) rfl
theorem mv_RL_39 : Mv RL 39 yX10_about cX10_about 3 (some .int) 2 := ⟨wd_1540, wd_1541, wd_1542, wd_11, wd_1543, (yd_X10_about).1, (yd_X10_about).2.1, (yd_X10_about).2.2⟩
theorem wd_707 : Cond.methodLink RL 40 yX9_thing ∈ TB := tb_3 (List.mem_of_getElem? (i := 227) rfl) rfl
theorem wd_710 : Cond.code yX9_thing cX9_thing 5 (some .int) ∈ TB := tb_3 (List.mem_of_getElem? (i := 230) rfl) rfl
theorem yd_X9_thing : yX9_thing.cls ≠ "java/lang/invoke/MethodHandle" ∧ yX9_thing.cls ≠ "java/lang/invoke/VarHandle" ∧ (parseMethodDescriptor yX9_thing.desc).map (fun d => d.parameters.length) = some 3 := by decide +kernel
theorem wd_708 : Cond.instanceMethod yX9_thing ∈ TB := tb_3 (List.mem_of_getElem? (i := 228) rfl) rfl
theorem wd_709 : Cond.selects yX9_thing.cls yX9_thing yX9_thing ∈ TB := tb_3 (List.mem_of_getElem? (i := 229) rfl) rfl
theorem mv_RL_40 : Mv RL 40 yX9_thing cX9_thing 5 (some .int) 3 := ⟨wd_707, wd_708, wd_709, wd_1, wd_710, (yd_X9_thing).1, (yd_X9_thing).2.1, (yd_X9_thing).2.2⟩
theorem wd_1548 : Cond.methodLink RL 44 yX10_thing ∈ TB := tb_7 (List.mem_of_getElem? (i := 108) rfl) rfl
theorem wd_1551 : Cond.code yX10_thing cX10_thing 5 (some .int) ∈ TB := tb_7 (List.mem_of_getElem? (i := 111) rfl) rfl
theorem yd_X10_thing : yX10_thing.cls ≠ "java/lang/invoke/MethodHandle" ∧ yX10_thing.cls ≠ "java/lang/invoke/VarHandle" ∧ (parseMethodDescriptor yX10_thing.desc).map (fun d => d.parameters.length) = some 3 := by decide +kernel
theorem wd_1549 : Cond.instanceMethod yX10_thing ∈ TB := tb_7 (List.mem_of_getElem? (i := 109) rfl) rfl
theorem wd_1550 : Cond.selects yX10_thing.cls yX10_thing yX10_thing ∈ TB := tb_7 (List.mem_of_getElem? (i := 110) rfl) rfl
theorem mv_RL_44 : Mv RL 44 yX10_thing cX10_thing 5 (some .int) 3 := ⟨wd_1548, wd_1549, wd_1550, wd_11, wd_1551, (yd_X10_thing).1, (yd_X10_thing).2.1, (yd_X10_thing).2.2⟩
theorem wd_716 : Cond.methodLink RL 45 yX9_ruled ∈ TB := tb_3 (List.mem_of_getElem? (i := 236) rfl) rfl
theorem wd_719 : Cond.code yX9_ruled cX9_ruled 4 (some .int) ∈ TB := tb_3 (List.mem_of_getElem? (i := 239) rfl) rfl
theorem yd_X9_ruled : yX9_ruled.cls ≠ "java/lang/invoke/MethodHandle" ∧ yX9_ruled.cls ≠ "java/lang/invoke/VarHandle" ∧ (parseMethodDescriptor yX9_ruled.desc).map (fun d => d.parameters.length) = some 2 := by decide +kernel
theorem wd_717 : Cond.instanceMethod yX9_ruled ∈ TB := tb_3 (List.mem_of_getElem? (i := 237) rfl) rfl
theorem wd_718 : Cond.selects yX9_ruled.cls yX9_ruled yX9_ruled ∈ TB := tb_3 (List.mem_of_getElem? (i := 238) rfl) rfl
theorem mv_RL_45 : Mv RL 45 yX9_ruled cX9_ruled 4 (some .int) 2 := ⟨wd_716, wd_717, wd_718, wd_1, wd_719, (yd_X9_ruled).1, (yd_X9_ruled).2.1, (yd_X9_ruled).2.2⟩
theorem wd_1556 : Cond.methodLink RL 48 yX10_ruled ∈ TB := tb_7 (List.mem_of_getElem? (i := 116) rfl) rfl
theorem wd_1559 : Cond.code yX10_ruled cX10_ruled 6 (some .int) ∈ TB := tb_7 (List.mem_of_getElem? (i := 119) rfl) rfl
theorem yd_X10_ruled : yX10_ruled.cls ≠ "java/lang/invoke/MethodHandle" ∧ yX10_ruled.cls ≠ "java/lang/invoke/VarHandle" ∧ (parseMethodDescriptor yX10_ruled.desc).map (fun d => d.parameters.length) = some 2 := by decide +kernel
theorem wd_1557 : Cond.instanceMethod yX10_ruled ∈ TB := tb_7 (List.mem_of_getElem? (i := 117) rfl) rfl
theorem wd_1558 : Cond.selects yX10_ruled.cls yX10_ruled yX10_ruled ∈ TB := tb_7 (List.mem_of_getElem? (i := 118) rfl) rfl
theorem mv_RL_48 : Mv RL 48 yX10_ruled cX10_ruled 6 (some .int) 2 := ⟨wd_1556, wd_1557, wd_1558, wd_11, wd_1559, (yd_X10_ruled).1, (yd_X10_ruled).2.1, (yd_X10_ruled).2.2⟩
theorem wd_725 : Cond.methodLink RL 49 yX9_add ∈ TB := tb_4 (List.mem_of_getElem? (i := 5) rfl) rfl
theorem wd_728 : Cond.code yX9_add cX9_add 10 (some .int) ∈ TB := tb_4 (List.mem_of_getElem? (i := 8) rfl) rfl
theorem yd_X9_add : yX9_add.cls ≠ "java/lang/invoke/MethodHandle" ∧ yX9_add.cls ≠ "java/lang/invoke/VarHandle" ∧ (parseMethodDescriptor yX9_add.desc).map (fun d => d.parameters.length) = some 7 := by decide +kernel
theorem wd_726 : Cond.instanceMethod yX9_add ∈ TB := tb_4 (List.mem_of_getElem? (i := 6) rfl) rfl
theorem wd_727 : Cond.selects yX9_add.cls yX9_add yX9_add ∈ TB := tb_4 (List.mem_of_getElem? (i := 7) rfl) rfl
theorem mv_RL_49 : Mv RL 49 yX9_add cX9_add 10 (some .int) 7 := ⟨wd_725, wd_726, wd_727, wd_1, wd_728, (yd_X9_add).1, (yd_X9_add).2.1, (yd_X9_add).2.2⟩
theorem wd_1560 : Cond.methodLink RL 53 yX10_add ∈ TB := tb_7 (List.mem_of_getElem? (i := 120) rfl) rfl
theorem wd_1563 : Cond.code yX10_add cX10_add 9 (some .int) ∈ TB := tb_7 (List.mem_of_getElem? (i := 123) rfl) rfl
theorem yd_X10_add : yX10_add.cls ≠ "java/lang/invoke/MethodHandle" ∧ yX10_add.cls ≠ "java/lang/invoke/VarHandle" ∧ (parseMethodDescriptor yX10_add.desc).map (fun d => d.parameters.length) = some 7 := by decide +kernel
theorem wd_1561 : Cond.instanceMethod yX10_add ∈ TB := tb_7 (List.mem_of_getElem? (i := 121) rfl) rfl
theorem wd_1562 : Cond.selects yX10_add.cls yX10_add yX10_add ∈ TB := tb_7 (List.mem_of_getElem? (i := 122) rfl) rfl
theorem mv_RL_53 : Mv RL 53 yX10_add cX10_add 9 (some .int) 7 := ⟨wd_1560, wd_1561, wd_1562, wd_11, wd_1563, (yd_X10_add).1, (yd_X10_add).2.1, (yd_X10_add).2.2⟩
theorem wd_749 : Cond.methodLink RL 54 yX9_gone ∈ TB := tb_4 (List.mem_of_getElem? (i := 29) rfl) rfl
theorem wd_752 : Cond.code yX9_gone cX9_gone 5 (some .boolean) ∈ TB := tb_4 (List.mem_of_getElem? (i := 32) rfl) rfl
theorem yd_X9_gone : yX9_gone.cls ≠ "java/lang/invoke/MethodHandle" ∧ yX9_gone.cls ≠ "java/lang/invoke/VarHandle" ∧ (parseMethodDescriptor yX9_gone.desc).map (fun d => d.parameters.length) = some 3 := by decide +kernel
theorem wd_750 : Cond.instanceMethod yX9_gone ∈ TB := tb_4 (List.mem_of_getElem? (i := 30) rfl) rfl
theorem wd_751 : Cond.selects yX9_gone.cls yX9_gone yX9_gone ∈ TB := tb_4 (List.mem_of_getElem? (i := 31) rfl) rfl
theorem mv_RL_54 : Mv RL 54 yX9_gone cX9_gone 5 (some .boolean) 3 := ⟨wd_749, wd_750, wd_751, wd_1, wd_752, (yd_X9_gone).1, (yd_X9_gone).2.1, (yd_X9_gone).2.2⟩
theorem wd_1571 : Cond.methodLink RL 58 yX10_gone ∈ TB := tb_7 (List.mem_of_getElem? (i := 131) rfl) rfl
theorem wd_1574 : Cond.code yX10_gone cX10_gone 4 (some .boolean) ∈ TB := tb_7 (List.mem_of_getElem? (i := 134) rfl) rfl
theorem yd_X10_gone : yX10_gone.cls ≠ "java/lang/invoke/MethodHandle" ∧ yX10_gone.cls ≠ "java/lang/invoke/VarHandle" ∧ (parseMethodDescriptor yX10_gone.desc).map (fun d => d.parameters.length) = some 3 := by decide +kernel
theorem wd_1572 : Cond.instanceMethod yX10_gone ∈ TB := tb_7 (List.mem_of_getElem? (i := 132) rfl) rfl
theorem wd_1573 : Cond.selects yX10_gone.cls yX10_gone yX10_gone ∈ TB := tb_7 (List.mem_of_getElem? (i := 133) rfl) rfl
theorem mv_RL_58 : Mv RL 58 yX10_gone cX10_gone 4 (some .boolean) 3 := ⟨wd_1571, wd_1572, wd_1573, wd_11, wd_1574, (yd_X10_gone).1, (yd_X10_gone).2.1, (yd_X10_gone).2.2⟩
theorem wd_754 : Cond.methodLink RL 59 yX9_apart ∈ TB := tb_4 (List.mem_of_getElem? (i := 34) rfl) rfl
theorem wd_757 : Cond.code yX9_apart cX9_apart 7 (some .int) ∈ TB := tb_4 (List.mem_of_getElem? (i := 37) rfl) rfl
theorem yd_X9_apart : yX9_apart.cls ≠ "java/lang/invoke/MethodHandle" ∧ yX9_apart.cls ≠ "java/lang/invoke/VarHandle" ∧ (parseMethodDescriptor yX9_apart.desc).map (fun d => d.parameters.length) = some 3 := by decide +kernel
theorem wd_755 : Cond.instanceMethod yX9_apart ∈ TB := tb_4 (List.mem_of_getElem? (i := 35) rfl) rfl
theorem wd_756 : Cond.selects yX9_apart.cls yX9_apart yX9_apart ∈ TB := tb_4 (List.mem_of_getElem? (i := 36) rfl) rfl
theorem mv_RL_59 : Mv RL 59 yX9_apart cX9_apart 7 (some .int) 3 := ⟨wd_754, wd_755, wd_756, wd_1, wd_757, (yd_X9_apart).1, (yd_X9_apart).2.1, (yd_X9_apart).2.2⟩
theorem wd_1575 : Cond.methodLink RL 62 yX10_apart ∈ TB := tb_7 (List.mem_of_getElem? (i := 135) rfl) rfl
theorem wd_1578 : Cond.code yX10_apart cX10_apart 4 (some .int) ∈ TB := tb_7 (List.mem_of_getElem? (i := 138) rfl) rfl
theorem yd_X10_apart : yX10_apart.cls ≠ "java/lang/invoke/MethodHandle" ∧ yX10_apart.cls ≠ "java/lang/invoke/VarHandle" ∧ (parseMethodDescriptor yX10_apart.desc).map (fun d => d.parameters.length) = some 3 := by decide +kernel
theorem wd_1576 : Cond.instanceMethod yX10_apart ∈ TB := tb_7 (List.mem_of_getElem? (i := 136) rfl) rfl
theorem wd_1577 : Cond.selects yX10_apart.cls yX10_apart yX10_apart ∈ TB := tb_7 (List.mem_of_getElem? (i := 137) rfl) rfl
theorem mv_RL_62 : Mv RL 62 yX10_apart cX10_apart 4 (some .int) 3 := ⟨wd_1575, wd_1576, wd_1577, wd_11, wd_1578, (yd_X10_apart).1, (yd_X10_apart).2.1, (yd_X10_apart).2.2⟩
theorem wd_758 : Cond.methodLink RL 63 yX9_between ∈ TB := tb_4 (List.mem_of_getElem? (i := 38) rfl) rfl
theorem wd_761 : Cond.code yX9_between cX9_between 6 (some .int) ∈ TB := tb_4 (List.mem_of_getElem? (i := 41) rfl) rfl
theorem yd_X9_between : yX9_between.cls ≠ "java/lang/invoke/MethodHandle" ∧ yX9_between.cls ≠ "java/lang/invoke/VarHandle" ∧ (parseMethodDescriptor yX9_between.desc).map (fun d => d.parameters.length) = some 4 := by decide +kernel
theorem wd_759 : Cond.instanceMethod yX9_between ∈ TB := tb_4 (List.mem_of_getElem? (i := 39) rfl) rfl
theorem wd_760 : Cond.selects yX9_between.cls yX9_between yX9_between ∈ TB := tb_4 (List.mem_of_getElem? (i := 40) rfl) rfl
theorem mv_RL_63 : Mv RL 63 yX9_between cX9_between 6 (some .int) 4 := ⟨wd_758, wd_759, wd_760, wd_1, wd_761, (yd_X9_between).1, (yd_X9_between).2.1, (yd_X9_between).2.2⟩
theorem wd_1587 : Cond.methodLink RL 67 yX10_between ∈ TB := tb_7 (List.mem_of_getElem? (i := 147) rfl) rfl
theorem wd_1590 : Cond.code yX10_between cX10_between 5 (some .int) ∈ TB := tb_7 (List.mem_of_getElem? (i := 150) rfl) rfl
theorem yd_X10_between : yX10_between.cls ≠ "java/lang/invoke/MethodHandle" ∧ yX10_between.cls ≠ "java/lang/invoke/VarHandle" ∧ (parseMethodDescriptor yX10_between.desc).map (fun d => d.parameters.length) = some 4 := by decide +kernel
theorem wd_1588 : Cond.instanceMethod yX10_between ∈ TB := tb_7 (List.mem_of_getElem? (i := 148) rfl) rfl
theorem wd_1589 : Cond.selects yX10_between.cls yX10_between yX10_between ∈ TB := tb_7 (List.mem_of_getElem? (i := 149) rfl) rfl
theorem mv_RL_67 : Mv RL 67 yX10_between cX10_between 5 (some .int) 4 := ⟨wd_1587, wd_1588, wd_1589, wd_11, wd_1590, (yd_X10_between).1, (yd_X10_between).2.1, (yd_X10_between).2.2⟩
theorem wd_803 : Cond.methodLink RL 68 yX9_grown ∈ TB := tb_4 (List.mem_of_getElem? (i := 83) rfl) rfl
theorem wd_806 : Cond.code yX9_grown cX9_grown 5 (some .int) ∈ TB := tb_4 (List.mem_of_getElem? (i := 86) rfl) rfl
theorem yd_X9_grown : yX9_grown.cls ≠ "java/lang/invoke/MethodHandle" ∧ yX9_grown.cls ≠ "java/lang/invoke/VarHandle" ∧ (parseMethodDescriptor yX9_grown.desc).map (fun d => d.parameters.length) = some 3 := by decide +kernel
theorem wd_804 : Cond.instanceMethod yX9_grown ∈ TB := tb_4 (List.mem_of_getElem? (i := 84) rfl) rfl
theorem wd_805 : Cond.selects yX9_grown.cls yX9_grown yX9_grown ∈ TB := tb_4 (List.mem_of_getElem? (i := 85) rfl) rfl
theorem mv_RL_68 : Mv RL 68 yX9_grown cX9_grown 5 (some .int) 3 := ⟨wd_803, wd_804, wd_805, wd_1, wd_806, (yd_X9_grown).1, (yd_X9_grown).2.1, (yd_X9_grown).2.2⟩
theorem wd_1605 : Cond.methodLink RL 71 yX10_grown ∈ TB := tb_7 (List.mem_of_getElem? (i := 165) rfl) rfl
theorem wd_1608 : Cond.code yX10_grown cX10_grown 4 (some .int) ∈ TB := tb_7 (List.mem_of_getElem? (i := 168) rfl) rfl
theorem yd_X10_grown : yX10_grown.cls ≠ "java/lang/invoke/MethodHandle" ∧ yX10_grown.cls ≠ "java/lang/invoke/VarHandle" ∧ (parseMethodDescriptor yX10_grown.desc).map (fun d => d.parameters.length) = some 3 := by decide +kernel
theorem wd_1606 : Cond.instanceMethod yX10_grown ∈ TB := tb_7 (List.mem_of_getElem? (i := 166) rfl) rfl
theorem wd_1607 : Cond.selects yX10_grown.cls yX10_grown yX10_grown ∈ TB := tb_7 (List.mem_of_getElem? (i := 167) rfl) rfl
theorem mv_RL_71 : Mv RL 71 yX10_grown cX10_grown 4 (some .int) 3 := ⟨wd_1605, wd_1606, wd_1607, wd_11, wd_1608, (yd_X10_grown).1, (yd_X10_grown).2.1, (yd_X10_grown).2.2⟩
theorem wd_808 : Cond.methodLink RL 72 yX9_bars ∈ TB := tb_4 (List.mem_of_getElem? (i := 88) rfl) rfl
theorem wd_811 : Cond.code yX9_bars cX9_bars 4 (some .int) ∈ TB := tb_4 (List.mem_of_getElem? (i := 91) rfl) rfl
theorem yd_X9_bars : yX9_bars.cls ≠ "java/lang/invoke/MethodHandle" ∧ yX9_bars.cls ≠ "java/lang/invoke/VarHandle" ∧ (parseMethodDescriptor yX9_bars.desc).map (fun d => d.parameters.length) = some 3 := by decide +kernel
theorem wd_809 : Cond.instanceMethod yX9_bars ∈ TB := tb_4 (List.mem_of_getElem? (i := 89) rfl) rfl
theorem wd_810 : Cond.selects yX9_bars.cls yX9_bars yX9_bars ∈ TB := tb_4 (List.mem_of_getElem? (i := 90) rfl) rfl
theorem mv_RL_72 : Mv RL 72 yX9_bars cX9_bars 4 (some .int) 3 := ⟨wd_808, wd_809, wd_810, wd_1, wd_811, (yd_X9_bars).1, (yd_X9_bars).2.1, (yd_X9_bars).2.2⟩
theorem wd_1613 : Cond.methodLink RL 75 yX10_bars ∈ TB := tb_7 (List.mem_of_getElem? (i := 173) rfl) rfl
theorem wd_1616 : Cond.code yX10_bars cX10_bars 4 (some .int) ∈ TB := tb_7 (List.mem_of_getElem? (i := 176) rfl) rfl
theorem yd_X10_bars : yX10_bars.cls ≠ "java/lang/invoke/MethodHandle" ∧ yX10_bars.cls ≠ "java/lang/invoke/VarHandle" ∧ (parseMethodDescriptor yX10_bars.desc).map (fun d => d.parameters.length) = some 3 := by decide +kernel
theorem wd_1614 : Cond.instanceMethod yX10_bars ∈ TB := tb_7 (List.mem_of_getElem? (i := 174) rfl) rfl
theorem wd_1615 : Cond.selects yX10_bars.cls yX10_bars yX10_bars ∈ TB := tb_7 (List.mem_of_getElem? (i := 175) rfl) rfl
theorem mv_RL_75 : Mv RL 75 yX10_bars cX10_bars 4 (some .int) 3 := ⟨wd_1613, wd_1614, wd_1615, wd_11, wd_1616, (yd_X10_bars).1, (yd_X10_bars).2.1, (yd_X10_bars).2.2⟩
theorem wd_857 : Cond.methodLink RL 76 yX9_bar ∈ TB := tb_4 (List.mem_of_getElem? (i := 137) rfl) rfl
theorem wd_860 : Cond.code yX9_bar cX9_bar 6 (some .int) ∈ TB := tb_4 (List.mem_of_getElem? (i := 140) rfl) rfl
theorem yd_X9_bar : yX9_bar.cls ≠ "java/lang/invoke/MethodHandle" ∧ yX9_bar.cls ≠ "java/lang/invoke/VarHandle" ∧ (parseMethodDescriptor yX9_bar.desc).map (fun d => d.parameters.length) = some 5 := by decide +kernel
theorem wd_858 : Cond.instanceMethod yX9_bar ∈ TB := tb_4 (List.mem_of_getElem? (i := 138) rfl) rfl
theorem wd_859 : Cond.selects yX9_bar.cls yX9_bar yX9_bar ∈ TB := tb_4 (List.mem_of_getElem? (i := 139) rfl) rfl
theorem mv_RL_76 : Mv RL 76 yX9_bar cX9_bar 6 (some .int) 5 := ⟨wd_857, wd_858, wd_859, wd_1, wd_860, (yd_X9_bar).1, (yd_X9_bar).2.1, (yd_X9_bar).2.2⟩
theorem wd_1659 : Cond.methodLink RL 79 yX10_bar ∈ TB := tb_7 (List.mem_of_getElem? (i := 219) rfl) rfl
theorem wd_1662 : Cond.code yX10_bar cX10_bar 6 (some .int) ∈ TB := tb_7 (List.mem_of_getElem? (i := 222) rfl) rfl
theorem yd_X10_bar : yX10_bar.cls ≠ "java/lang/invoke/MethodHandle" ∧ yX10_bar.cls ≠ "java/lang/invoke/VarHandle" ∧ (parseMethodDescriptor yX10_bar.desc).map (fun d => d.parameters.length) = some 5 := by decide +kernel
theorem wd_1660 : Cond.instanceMethod yX10_bar ∈ TB := tb_7 (List.mem_of_getElem? (i := 220) rfl) rfl
theorem wd_1661 : Cond.selects yX10_bar.cls yX10_bar yX10_bar ∈ TB := tb_7 (List.mem_of_getElem? (i := 221) rfl) rfl
theorem mv_RL_79 : Mv RL 79 yX10_bar cX10_bar 6 (some .int) 5 := ⟨wd_1659, wd_1660, wd_1661, wd_11, wd_1662, (yd_X10_bar).1, (yd_X10_bar).2.1, (yd_X10_bar).2.2⟩
theorem wd_907 : Cond.methodLink RL 80 yX9_goes ∈ TB := tb_4 (List.mem_of_getElem? (i := 187) rfl) rfl
theorem wd_910 : Cond.code yX9_goes cX9_goes 7 (some .int) ∈ TB := tb_4 (List.mem_of_getElem? (i := 190) rfl) rfl
theorem yd_X9_goes : yX9_goes.cls ≠ "java/lang/invoke/MethodHandle" ∧ yX9_goes.cls ≠ "java/lang/invoke/VarHandle" ∧ (parseMethodDescriptor yX9_goes.desc).map (fun d => d.parameters.length) = some 3 := by decide +kernel
theorem wd_908 : Cond.instanceMethod yX9_goes ∈ TB := tb_4 (List.mem_of_getElem? (i := 188) rfl) rfl
theorem wd_909 : Cond.selects yX9_goes.cls yX9_goes yX9_goes ∈ TB := tb_4 (List.mem_of_getElem? (i := 189) rfl) rfl
theorem mv_RL_80 : Mv RL 80 yX9_goes cX9_goes 7 (some .int) 3 := ⟨wd_907, wd_908, wd_909, wd_1, wd_910, (yd_X9_goes).1, (yd_X9_goes).2.1, (yd_X9_goes).2.2⟩
theorem wd_1683 : Cond.methodLink RL 83 yX10_goes ∈ TB := tb_8 (List.mem_of_getElem? (i := 3) rfl) rfl
theorem wd_1686 : Cond.code yX10_goes cX10_goes 7 (some .int) ∈ TB := tb_8 (List.mem_of_getElem? (i := 6) rfl) rfl
theorem yd_X10_goes : yX10_goes.cls ≠ "java/lang/invoke/MethodHandle" ∧ yX10_goes.cls ≠ "java/lang/invoke/VarHandle" ∧ (parseMethodDescriptor yX10_goes.desc).map (fun d => d.parameters.length) = some 3 := by decide +kernel
theorem wd_1684 : Cond.instanceMethod yX10_goes ∈ TB := tb_8 (List.mem_of_getElem? (i := 4) rfl) rfl
theorem wd_1685 : Cond.selects yX10_goes.cls yX10_goes yX10_goes ∈ TB := tb_8 (List.mem_of_getElem? (i := 5) rfl) rfl
theorem mv_RL_83 : Mv RL 83 yX10_goes cX10_goes 7 (some .int) 3 := ⟨wd_1683, wd_1684, wd_1685, wd_11, wd_1686, (yd_X10_goes).1, (yd_X10_goes).2.1, (yd_X10_goes).2.2⟩
theorem wd_911 : Cond.methodLink RL 84 yX9_pays ∈ TB := tb_4 (List.mem_of_getElem? (i := 191) rfl) rfl
theorem wd_914 : Cond.code yX9_pays cX9_pays 9 (some .int) ∈ TB := tb_4 (List.mem_of_getElem? (i := 194) rfl) rfl
theorem yd_X9_pays : yX9_pays.cls ≠ "java/lang/invoke/MethodHandle" ∧ yX9_pays.cls ≠ "java/lang/invoke/VarHandle" ∧ (parseMethodDescriptor yX9_pays.desc).map (fun d => d.parameters.length) = some 4 := by decide +kernel
theorem wd_912 : Cond.instanceMethod yX9_pays ∈ TB := tb_4 (List.mem_of_getElem? (i := 192) rfl) rfl
theorem wd_913 : Cond.selects yX9_pays.cls yX9_pays yX9_pays ∈ TB := tb_4 (List.mem_of_getElem? (i := 193) rfl) rfl
theorem mv_RL_84 : Mv RL 84 yX9_pays cX9_pays 9 (some .int) 4 := ⟨wd_911, wd_912, wd_913, wd_1, wd_914, (yd_X9_pays).1, (yd_X9_pays).2.1, (yd_X9_pays).2.2⟩
theorem wd_1687 : Cond.methodLink RL 87 yX10_pays ∈ TB := tb_8 (List.mem_of_getElem? (i := 7) rfl) rfl
theorem wd_1690 : Cond.code yX10_pays cX10_pays 11 (some .int) ∈ TB := tb_8 (List.mem_of_getElem? (i := 10) rfl) rfl
theorem yd_X10_pays : yX10_pays.cls ≠ "java/lang/invoke/MethodHandle" ∧ yX10_pays.cls ≠ "java/lang/invoke/VarHandle" ∧ (parseMethodDescriptor yX10_pays.desc).map (fun d => d.parameters.length) = some 4 := by decide +kernel
theorem wd_1688 : Cond.instanceMethod yX10_pays ∈ TB := tb_8 (List.mem_of_getElem? (i := 8) rfl) rfl
theorem wd_1689 : Cond.selects yX10_pays.cls yX10_pays yX10_pays ∈ TB := tb_8 (List.mem_of_getElem? (i := 9) rfl) rfl
theorem mv_RL_87 : Mv RL 87 yX10_pays cX10_pays 11 (some .int) 4 := ⟨wd_1687, wd_1688, wd_1689, wd_11, wd_1690, (yd_X10_pays).1, (yd_X10_pays).2.1, (yd_X10_pays).2.2⟩
theorem wd_920 : Cond.methodLink RL 88 yX9_first ∈ TB := tb_4 (List.mem_of_getElem? (i := 200) rfl) rfl
theorem wd_923 : Cond.code yX9_first cX9_first 8 (some .int) ∈ TB := tb_4 (List.mem_of_getElem? (i := 203) rfl) rfl
theorem yd_X9_first : yX9_first.cls ≠ "java/lang/invoke/MethodHandle" ∧ yX9_first.cls ≠ "java/lang/invoke/VarHandle" ∧ (parseMethodDescriptor yX9_first.desc).map (fun d => d.parameters.length) = some 4 := by decide +kernel
theorem wd_921 : Cond.instanceMethod yX9_first ∈ TB := tb_4 (List.mem_of_getElem? (i := 201) rfl) rfl
theorem wd_922 : Cond.selects yX9_first.cls yX9_first yX9_first ∈ TB := tb_4 (List.mem_of_getElem? (i := 202) rfl) rfl
theorem mv_RL_88 : Mv RL 88 yX9_first cX9_first 8 (some .int) 4 := ⟨wd_920, wd_921, wd_922, wd_1, wd_923, (yd_X9_first).1, (yd_X9_first).2.1, (yd_X9_first).2.2⟩
theorem wd_1691 : Cond.methodLink RL 91 yX10_first ∈ TB := tb_8 (List.mem_of_getElem? (i := 11) rfl) rfl
theorem wd_1694 : Cond.code yX10_first cX10_first 6 (some .int) ∈ TB := tb_8 (List.mem_of_getElem? (i := 14) rfl) rfl
theorem yd_X10_first : yX10_first.cls ≠ "java/lang/invoke/MethodHandle" ∧ yX10_first.cls ≠ "java/lang/invoke/VarHandle" ∧ (parseMethodDescriptor yX10_first.desc).map (fun d => d.parameters.length) = some 4 := by decide +kernel
theorem wd_1692 : Cond.instanceMethod yX10_first ∈ TB := tb_8 (List.mem_of_getElem? (i := 12) rfl) rfl
theorem wd_1693 : Cond.selects yX10_first.cls yX10_first yX10_first ∈ TB := tb_8 (List.mem_of_getElem? (i := 13) rfl) rfl
theorem mv_RL_91 : Mv RL 91 yX10_first cX10_first 6 (some .int) 4 := ⟨wd_1691, wd_1692, wd_1693, wd_11, wd_1694, (yd_X10_first).1, (yd_X10_first).2.1, (yd_X10_first).2.2⟩
theorem wd_939 : Cond.methodLink RL 92 yX9_may ∈ TB := tb_4 (List.mem_of_getElem? (i := 219) rfl) rfl
theorem wd_942 : Cond.code yX9_may cX9_may 8 (some .boolean) ∈ TB := tb_4 (List.mem_of_getElem? (i := 222) rfl) rfl
theorem yd_X9_may : yX9_may.cls ≠ "java/lang/invoke/MethodHandle" ∧ yX9_may.cls ≠ "java/lang/invoke/VarHandle" ∧ (parseMethodDescriptor yX9_may.desc).map (fun d => d.parameters.length) = some 7 := by decide +kernel
theorem wd_940 : Cond.instanceMethod yX9_may ∈ TB := tb_4 (List.mem_of_getElem? (i := 220) rfl) rfl
theorem wd_941 : Cond.selects yX9_may.cls yX9_may yX9_may ∈ TB := tb_4 (List.mem_of_getElem? (i := 221) rfl) rfl
theorem mv_RL_92 : Mv RL 92 yX9_may cX9_may 8 (some .boolean) 7 := ⟨wd_939, wd_940, wd_941, wd_1, wd_942, (yd_X9_may).1, (yd_X9_may).2.1, (yd_X9_may).2.2⟩
theorem wd_1699 : Cond.methodLink RL 96 yX10_may ∈ TB := tb_8 (List.mem_of_getElem? (i := 19) rfl) rfl
theorem wd_1702 : Cond.code yX10_may cX10_may 8 (some .boolean) ∈ TB := tb_8 (List.mem_of_getElem? (i := 22) rfl) rfl
theorem yd_X10_may : yX10_may.cls ≠ "java/lang/invoke/MethodHandle" ∧ yX10_may.cls ≠ "java/lang/invoke/VarHandle" ∧ (parseMethodDescriptor yX10_may.desc).map (fun d => d.parameters.length) = some 7 := by decide +kernel
theorem wd_1700 : Cond.instanceMethod yX10_may ∈ TB := tb_8 (List.mem_of_getElem? (i := 20) rfl) rfl
theorem wd_1701 : Cond.selects yX10_may.cls yX10_may yX10_may ∈ TB := tb_8 (List.mem_of_getElem? (i := 21) rfl) rfl
theorem mv_RL_96 : Mv RL 96 yX10_may cX10_may 8 (some .boolean) 7 := ⟨wd_1699, wd_1700, wd_1701, wd_11, wd_1702, (yd_X10_may).1, (yd_X10_may).2.1, (yd_X10_may).2.2⟩
theorem wd_966 : Cond.methodLink RL 97 yX9_spots ∈ TB := tb_5 (List.mem_of_getElem? (i := 6) rfl) rfl
theorem wd_969 : Cond.code yX9_spots cX9_spots 6 (some .int) ∈ TB := tb_5 (List.mem_of_getElem? (i := 9) rfl) rfl
theorem yd_X9_spots : yX9_spots.cls ≠ "java/lang/invoke/MethodHandle" ∧ yX9_spots.cls ≠ "java/lang/invoke/VarHandle" ∧ (parseMethodDescriptor yX9_spots.desc).map (fun d => d.parameters.length) = some 5 := by decide +kernel
theorem wd_967 : Cond.instanceMethod yX9_spots ∈ TB := tb_5 (List.mem_of_getElem? (i := 7) rfl) rfl
theorem wd_968 : Cond.selects yX9_spots.cls yX9_spots yX9_spots ∈ TB := tb_5 (List.mem_of_getElem? (i := 8) rfl) rfl
theorem mv_RL_97 : Mv RL 97 yX9_spots cX9_spots 6 (some .int) 5 := ⟨wd_966, wd_967, wd_968, wd_1, wd_969, (yd_X9_spots).1, (yd_X9_spots).2.1, (yd_X9_spots).2.2⟩
theorem wd_1715 : Cond.methodLink RL 100 yX10_spots ∈ TB := tb_8 (List.mem_of_getElem? (i := 35) rfl) rfl
theorem wd_1718 : Cond.code yX10_spots cX10_spots 6 (some .int) ∈ TB := tb_8 (List.mem_of_getElem? (i := 38) rfl) rfl
theorem yd_X10_spots : yX10_spots.cls ≠ "java/lang/invoke/MethodHandle" ∧ yX10_spots.cls ≠ "java/lang/invoke/VarHandle" ∧ (parseMethodDescriptor yX10_spots.desc).map (fun d => d.parameters.length) = some 5 := by decide +kernel
theorem wd_1716 : Cond.instanceMethod yX10_spots ∈ TB := tb_8 (List.mem_of_getElem? (i := 36) rfl) rfl
theorem wd_1717 : Cond.selects yX10_spots.cls yX10_spots yX10_spots ∈ TB := tb_8 (List.mem_of_getElem? (i := 37) rfl) rfl
theorem mv_RL_100 : Mv RL 100 yX10_spots cX10_spots 6 (some .int) 5 := ⟨wd_1715, wd_1716, wd_1717, wd_11, wd_1718, (yd_X10_spots).1, (yd_X10_spots).2.1, (yd_X10_spots).2.2⟩
theorem wd_984 : Cond.methodLink RL 101 yX9_spot ∈ TB := tb_5 (List.mem_of_getElem? (i := 24) rfl) rfl
theorem wd_987 : Cond.code yX9_spot cX9_spot 11 (some .int) ∈ TB := tb_5 (List.mem_of_getElem? (i := 27) rfl) rfl
theorem yd_X9_spot : yX9_spot.cls ≠ "java/lang/invoke/MethodHandle" ∧ yX9_spot.cls ≠ "java/lang/invoke/VarHandle" ∧ (parseMethodDescriptor yX9_spot.desc).map (fun d => d.parameters.length) = some 6 := by decide +kernel
theorem wd_985 : Cond.instanceMethod yX9_spot ∈ TB := tb_5 (List.mem_of_getElem? (i := 25) rfl) rfl
theorem wd_986 : Cond.selects yX9_spot.cls yX9_spot yX9_spot ∈ TB := tb_5 (List.mem_of_getElem? (i := 26) rfl) rfl
theorem mv_RL_101 : Mv RL 101 yX9_spot cX9_spot 11 (some .int) 6 := ⟨wd_984, wd_985, wd_986, wd_1, wd_987, (yd_X9_spot).1, (yd_X9_spot).2.1, (yd_X9_spot).2.2⟩
theorem wd_1723 : Cond.methodLink RL 105 yX10_spot ∈ TB := tb_8 (List.mem_of_getElem? (i := 43) rfl) rfl
theorem wd_1726 : Cond.code yX10_spot cX10_spot 7 (some .int) ∈ TB := tb_8 (List.mem_of_getElem? (i := 46) rfl) rfl
theorem yd_X10_spot : yX10_spot.cls ≠ "java/lang/invoke/MethodHandle" ∧ yX10_spot.cls ≠ "java/lang/invoke/VarHandle" ∧ (parseMethodDescriptor yX10_spot.desc).map (fun d => d.parameters.length) = some 6 := by decide +kernel
theorem wd_1724 : Cond.instanceMethod yX10_spot ∈ TB := tb_8 (List.mem_of_getElem? (i := 44) rfl) rfl
theorem wd_1725 : Cond.selects yX10_spot.cls yX10_spot yX10_spot ∈ TB := tb_8 (List.mem_of_getElem? (i := 45) rfl) rfl
theorem mv_RL_105 : Mv RL 105 yX10_spot cX10_spot 7 (some .int) 6 := ⟨wd_1723, wd_1724, wd_1725, wd_11, wd_1726, (yd_X10_spot).1, (yd_X10_spot).2.1, (yd_X10_spot).2.2⟩
theorem wd_988 : Cond.methodLink RL 106 yX9_wish ∈ TB := tb_5 (List.mem_of_getElem? (i := 28) rfl) rfl
theorem wd_991 : Cond.code yX9_wish cX9_wish 6 (some .int) ∈ TB := tb_5 (List.mem_of_getElem? (i := 31) rfl) rfl
theorem yd_X9_wish : yX9_wish.cls ≠ "java/lang/invoke/MethodHandle" ∧ yX9_wish.cls ≠ "java/lang/invoke/VarHandle" ∧ (parseMethodDescriptor yX9_wish.desc).map (fun d => d.parameters.length) = some 3 := by decide +kernel
theorem wd_989 : Cond.instanceMethod yX9_wish ∈ TB := tb_5 (List.mem_of_getElem? (i := 29) rfl) rfl
theorem wd_990 : Cond.selects yX9_wish.cls yX9_wish yX9_wish ∈ TB := tb_5 (List.mem_of_getElem? (i := 30) rfl) rfl
theorem mv_RL_106 : Mv RL 106 yX9_wish cX9_wish 6 (some .int) 3 := ⟨wd_988, wd_989, wd_990, wd_1, wd_991, (yd_X9_wish).1, (yd_X9_wish).2.1, (yd_X9_wish).2.2⟩
theorem wd_1727 : Cond.methodLink RL 109 yX10_wish ∈ TB := tb_8 (List.mem_of_getElem? (i := 47) rfl) rfl
theorem wd_1730 : Cond.code yX10_wish cX10_wish 4 (some .int) ∈ TB := tb_8 (List.mem_of_getElem? (i := 50) rfl) rfl
theorem yd_X10_wish : yX10_wish.cls ≠ "java/lang/invoke/MethodHandle" ∧ yX10_wish.cls ≠ "java/lang/invoke/VarHandle" ∧ (parseMethodDescriptor yX10_wish.desc).map (fun d => d.parameters.length) = some 3 := by decide +kernel
theorem wd_1728 : Cond.instanceMethod yX10_wish ∈ TB := tb_8 (List.mem_of_getElem? (i := 48) rfl) rfl
theorem wd_1729 : Cond.selects yX10_wish.cls yX10_wish yX10_wish ∈ TB := tb_8 (List.mem_of_getElem? (i := 49) rfl) rfl
theorem mv_RL_109 : Mv RL 109 yX10_wish cX10_wish 4 (some .int) 3 := ⟨wd_1727, wd_1728, wd_1729, wd_11, wd_1730, (yd_X10_wish).1, (yd_X10_wish).2.1, (yd_X10_wish).2.2⟩
theorem wd_992 : Cond.methodLink RL 110 yX9_forget ∈ TB := tb_5 (List.mem_of_getElem? (i := 32) rfl) rfl
theorem wd_995 : Cond.code yX9_forget cX9_forget 3 (some .boolean) ∈ TB := tb_5 (List.mem_of_getElem? (i := 35) rfl) rfl
theorem yd_X9_forget : yX9_forget.cls ≠ "java/lang/invoke/MethodHandle" ∧ yX9_forget.cls ≠ "java/lang/invoke/VarHandle" ∧ (parseMethodDescriptor yX9_forget.desc).map (fun d => d.parameters.length) = some 1 := by decide +kernel
theorem wd_993 : Cond.instanceMethod yX9_forget ∈ TB := tb_5 (List.mem_of_getElem? (i := 33) rfl) rfl
theorem wd_994 : Cond.selects yX9_forget.cls yX9_forget yX9_forget ∈ TB := tb_5 (List.mem_of_getElem? (i := 34) rfl) rfl
theorem mv_RL_110 : Mv RL 110 yX9_forget cX9_forget 3 (some .boolean) 1 := ⟨wd_992, wd_993, wd_994, wd_1, wd_995, (yd_X9_forget).1, (yd_X9_forget).2.1, (yd_X9_forget).2.2⟩
theorem wd_1731 : Cond.methodLink RL 114 yX10_forget ∈ TB := tb_8 (List.mem_of_getElem? (i := 51) rfl) rfl
theorem wd_1734 : Cond.code yX10_forget cX10_forget 2 (some .boolean) ∈ TB := tb_8 (List.mem_of_getElem? (i := 54) rfl) rfl
theorem yd_X10_forget : yX10_forget.cls ≠ "java/lang/invoke/MethodHandle" ∧ yX10_forget.cls ≠ "java/lang/invoke/VarHandle" ∧ (parseMethodDescriptor yX10_forget.desc).map (fun d => d.parameters.length) = some 1 := by decide +kernel
theorem wd_1732 : Cond.instanceMethod yX10_forget ∈ TB := tb_8 (List.mem_of_getElem? (i := 52) rfl) rfl
theorem wd_1733 : Cond.selects yX10_forget.cls yX10_forget yX10_forget ∈ TB := tb_8 (List.mem_of_getElem? (i := 53) rfl) rfl
theorem mv_RL_114 : Mv RL 114 yX10_forget cX10_forget 2 (some .boolean) 1 := ⟨wd_1731, wd_1732, wd_1733, wd_11, wd_1734, (yd_X10_forget).1, (yd_X10_forget).2.1, (yd_X10_forget).2.2⟩
theorem wd_996 : Cond.methodLink RL 115 yX9_plan ∈ TB := tb_5 (List.mem_of_getElem? (i := 36) rfl) rfl
theorem wd_999 : Cond.code yX9_plan cX9_plan 7 (some .int) ∈ TB := tb_5 (List.mem_of_getElem? (i := 39) rfl) rfl
theorem yd_X9_plan : yX9_plan.cls ≠ "java/lang/invoke/MethodHandle" ∧ yX9_plan.cls ≠ "java/lang/invoke/VarHandle" ∧ (parseMethodDescriptor yX9_plan.desc).map (fun d => d.parameters.length) = some 5 := by decide +kernel
theorem wd_997 : Cond.instanceMethod yX9_plan ∈ TB := tb_5 (List.mem_of_getElem? (i := 37) rfl) rfl
theorem wd_998 : Cond.selects yX9_plan.cls yX9_plan yX9_plan ∈ TB := tb_5 (List.mem_of_getElem? (i := 38) rfl) rfl
theorem mv_RL_115 : Mv RL 115 yX9_plan cX9_plan 7 (some .int) 5 := ⟨wd_996, wd_997, wd_998, wd_1, wd_999, (yd_X9_plan).1, (yd_X9_plan).2.1, (yd_X9_plan).2.2⟩
theorem wd_1735 : Cond.methodLink RL 119 yX10_plan ∈ TB := tb_8 (List.mem_of_getElem? (i := 55) rfl) rfl
theorem wd_1738 : Cond.code yX10_plan cX10_plan 6 (some .int) ∈ TB := tb_8 (List.mem_of_getElem? (i := 58) rfl) rfl
theorem yd_X10_plan : yX10_plan.cls ≠ "java/lang/invoke/MethodHandle" ∧ yX10_plan.cls ≠ "java/lang/invoke/VarHandle" ∧ (parseMethodDescriptor yX10_plan.desc).map (fun d => d.parameters.length) = some 5 := by decide +kernel
theorem wd_1736 : Cond.instanceMethod yX10_plan ∈ TB := tb_8 (List.mem_of_getElem? (i := 56) rfl) rfl
theorem wd_1737 : Cond.selects yX10_plan.cls yX10_plan yX10_plan ∈ TB := tb_8 (List.mem_of_getElem? (i := 57) rfl) rfl
theorem mv_RL_119 : Mv RL 119 yX10_plan cX10_plan 6 (some .int) 5 := ⟨wd_1735, wd_1736, wd_1737, wd_11, wd_1738, (yd_X10_plan).1, (yd_X10_plan).2.1, (yd_X10_plan).2.2⟩
theorem wd_1018 : Cond.methodLink RL 120 yX9_blame ∈ TB := tb_5 (List.mem_of_getElem? (i := 58) rfl) rfl
theorem wd_1021 : Cond.code yX9_blame cX9_blame 6 (some .int) ∈ TB := tb_5 (List.mem_of_getElem? (i := 61) rfl) rfl
theorem yd_X9_blame : yX9_blame.cls ≠ "java/lang/invoke/MethodHandle" ∧ yX9_blame.cls ≠ "java/lang/invoke/VarHandle" ∧ (parseMethodDescriptor yX9_blame.desc).map (fun d => d.parameters.length) = some 3 := by decide +kernel
theorem wd_1019 : Cond.instanceMethod yX9_blame ∈ TB := tb_5 (List.mem_of_getElem? (i := 59) rfl) rfl
theorem wd_1020 : Cond.selects yX9_blame.cls yX9_blame yX9_blame ∈ TB := tb_5 (List.mem_of_getElem? (i := 60) rfl) rfl
theorem mv_RL_120 : Mv RL 120 yX9_blame cX9_blame 6 (some .int) 3 := ⟨wd_1018, wd_1019, wd_1020, wd_1, wd_1021, (yd_X9_blame).1, (yd_X9_blame).2.1, (yd_X9_blame).2.2⟩
theorem wd_1747 : Cond.methodLink RL 123 yX10_blame ∈ TB := tb_8 (List.mem_of_getElem? (i := 67) rfl) rfl
theorem wd_1750 : Cond.code yX10_blame cX10_blame 5 (some .int) ∈ TB := tb_8 (List.mem_of_getElem? (i := 70) rfl) rfl
theorem yd_X10_blame : yX10_blame.cls ≠ "java/lang/invoke/MethodHandle" ∧ yX10_blame.cls ≠ "java/lang/invoke/VarHandle" ∧ (parseMethodDescriptor yX10_blame.desc).map (fun d => d.parameters.length) = some 3 := by decide +kernel
theorem wd_1748 : Cond.instanceMethod yX10_blame ∈ TB := tb_8 (List.mem_of_getElem? (i := 68) rfl) rfl
theorem wd_1749 : Cond.selects yX10_blame.cls yX10_blame yX10_blame ∈ TB := tb_8 (List.mem_of_getElem? (i := 69) rfl) rfl
theorem mv_RL_123 : Mv RL 123 yX10_blame cX10_blame 5 (some .int) 3 := ⟨wd_1747, wd_1748, wd_1749, wd_11, wd_1750, (yd_X10_blame).1, (yd_X10_blame).2.1, (yd_X10_blame).2.2⟩
theorem wd_1022 : Cond.methodLink RL 124 yX9_fewest ∈ TB := tb_5 (List.mem_of_getElem? (i := 62) rfl) rfl
theorem wd_1025 : Cond.code yX9_fewest cX9_fewest 5 (some .int) ∈ TB := tb_5 (List.mem_of_getElem? (i := 65) rfl) rfl
theorem yd_X9_fewest : yX9_fewest.cls ≠ "java/lang/invoke/MethodHandle" ∧ yX9_fewest.cls ≠ "java/lang/invoke/VarHandle" ∧ (parseMethodDescriptor yX9_fewest.desc).map (fun d => d.parameters.length) = some 4 := by decide +kernel
theorem wd_1023 : Cond.instanceMethod yX9_fewest ∈ TB := tb_5 (List.mem_of_getElem? (i := 63) rfl) rfl
theorem wd_1024 : Cond.selects yX9_fewest.cls yX9_fewest yX9_fewest ∈ TB := tb_5 (List.mem_of_getElem? (i := 64) rfl) rfl
theorem mv_RL_124 : Mv RL 124 yX9_fewest cX9_fewest 5 (some .int) 4 := ⟨wd_1022, wd_1023, wd_1024, wd_1, wd_1025, (yd_X9_fewest).1, (yd_X9_fewest).2.1, (yd_X9_fewest).2.2⟩
theorem wd_1751 : Cond.methodLink RL 128 yX10_fewest ∈ TB := tb_8 (List.mem_of_getElem? (i := 71) rfl) rfl
theorem wd_1754 : Cond.code yX10_fewest cX10_fewest 10 (some .int) ∈ TB := tb_8 (List.mem_of_getElem? (i := 74) rfl) rfl
theorem yd_X10_fewest : yX10_fewest.cls ≠ "java/lang/invoke/MethodHandle" ∧ yX10_fewest.cls ≠ "java/lang/invoke/VarHandle" ∧ (parseMethodDescriptor yX10_fewest.desc).map (fun d => d.parameters.length) = some 4 := by decide +kernel
theorem wd_1752 : Cond.instanceMethod yX10_fewest ∈ TB := tb_8 (List.mem_of_getElem? (i := 72) rfl) rfl
theorem wd_1753 : Cond.selects yX10_fewest.cls yX10_fewest yX10_fewest ∈ TB := tb_8 (List.mem_of_getElem? (i := 73) rfl) rfl
theorem mv_RL_128 : Mv RL 128 yX10_fewest cX10_fewest 10 (some .int) 4 := ⟨wd_1751, wd_1752, wd_1753, wd_11, wd_1754, (yd_X10_fewest).1, (yd_X10_fewest).2.1, (yd_X10_fewest).2.2⟩
theorem wd_1047 : Cond.methodLink RL 129 yX9_fenced ∈ TB := tb_5 (List.mem_of_getElem? (i := 87) rfl) rfl
theorem wd_1050 : Cond.code yX9_fenced cX9_fenced 4 (some .int) ∈ TB := tb_5 (List.mem_of_getElem? (i := 90) rfl) rfl
theorem yd_X9_fenced : yX9_fenced.cls ≠ "java/lang/invoke/MethodHandle" ∧ yX9_fenced.cls ≠ "java/lang/invoke/VarHandle" ∧ (parseMethodDescriptor yX9_fenced.desc).map (fun d => d.parameters.length) = some 3 := by decide +kernel
theorem wd_1048 : Cond.instanceMethod yX9_fenced ∈ TB := tb_5 (List.mem_of_getElem? (i := 88) rfl) rfl
theorem wd_1049 : Cond.selects yX9_fenced.cls yX9_fenced yX9_fenced ∈ TB := tb_5 (List.mem_of_getElem? (i := 89) rfl) rfl
theorem mv_RL_129 : Mv RL 129 yX9_fenced cX9_fenced 4 (some .int) 3 := ⟨wd_1047, wd_1048, wd_1049, wd_1, wd_1050, (yd_X9_fenced).1, (yd_X9_fenced).2.1, (yd_X9_fenced).2.2⟩
theorem wd_1769 : Cond.methodLink RL 132 yX10_fenced ∈ TB := tb_8 (List.mem_of_getElem? (i := 89) rfl) rfl
theorem wd_1772 : Cond.code yX10_fenced cX10_fenced 6 (some .int) ∈ TB := tb_8 (List.mem_of_getElem? (i := 92) rfl) rfl
theorem yd_X10_fenced : yX10_fenced.cls ≠ "java/lang/invoke/MethodHandle" ∧ yX10_fenced.cls ≠ "java/lang/invoke/VarHandle" ∧ (parseMethodDescriptor yX10_fenced.desc).map (fun d => d.parameters.length) = some 3 := by decide +kernel
theorem wd_1770 : Cond.instanceMethod yX10_fenced ∈ TB := tb_8 (List.mem_of_getElem? (i := 90) rfl) rfl
theorem wd_1771 : Cond.selects yX10_fenced.cls yX10_fenced yX10_fenced ∈ TB := tb_8 (List.mem_of_getElem? (i := 91) rfl) rfl
theorem mv_RL_132 : Mv RL 132 yX10_fenced cX10_fenced 6 (some .int) 3 := ⟨wd_1769, wd_1770, wd_1771, wd_11, wd_1772, (yd_X10_fenced).1, (yd_X10_fenced).2.1, (yd_X10_fenced).2.2⟩
theorem wd_1068 : Cond.methodLink RL 133 yX9_smells ∈ TB := tb_5 (List.mem_of_getElem? (i := 108) rfl) rfl
theorem wd_1071 : Cond.code yX9_smells cX9_smells 7 (some .int) ∈ TB := tb_5 (List.mem_of_getElem? (i := 111) rfl) rfl
theorem yd_X9_smells : yX9_smells.cls ≠ "java/lang/invoke/MethodHandle" ∧ yX9_smells.cls ≠ "java/lang/invoke/VarHandle" ∧ (parseMethodDescriptor yX9_smells.desc).map (fun d => d.parameters.length) = some 3 := by decide +kernel
theorem wd_1069 : Cond.instanceMethod yX9_smells ∈ TB := tb_5 (List.mem_of_getElem? (i := 109) rfl) rfl
theorem wd_1070 : Cond.selects yX9_smells.cls yX9_smells yX9_smells ∈ TB := tb_5 (List.mem_of_getElem? (i := 110) rfl) rfl
theorem mv_RL_133 : Mv RL 133 yX9_smells cX9_smells 7 (some .int) 3 := ⟨wd_1068, wd_1069, wd_1070, wd_1, wd_1071, (yd_X9_smells).1, (yd_X9_smells).2.1, (yd_X9_smells).2.2⟩
theorem wd_1773 : Cond.methodLink RL 136 yX10_smells ∈ TB := tb_8 (List.mem_of_getElem? (i := 93) rfl) rfl
theorem wd_1776 : Cond.code yX10_smells cX10_smells 4 (some .int) ∈ TB := tb_8 (List.mem_of_getElem? (i := 96) rfl) rfl
theorem yd_X10_smells : yX10_smells.cls ≠ "java/lang/invoke/MethodHandle" ∧ yX10_smells.cls ≠ "java/lang/invoke/VarHandle" ∧ (parseMethodDescriptor yX10_smells.desc).map (fun d => d.parameters.length) = some 3 := by decide +kernel
theorem wd_1774 : Cond.instanceMethod yX10_smells ∈ TB := tb_8 (List.mem_of_getElem? (i := 94) rfl) rfl
theorem wd_1775 : Cond.selects yX10_smells.cls yX10_smells yX10_smells ∈ TB := tb_8 (List.mem_of_getElem? (i := 95) rfl) rfl
theorem mv_RL_136 : Mv RL 136 yX10_smells cX10_smells 4 (some .int) 3 := ⟨wd_1773, wd_1774, wd_1775, wd_11, wd_1776, (yd_X10_smells).1, (yd_X10_smells).2.1, (yd_X10_smells).2.2⟩
theorem wd_1073 : Cond.methodLink RL 137 yX9_beside ∈ TB := tb_5 (List.mem_of_getElem? (i := 113) rfl) rfl
theorem wd_1076 : Cond.code yX9_beside cX9_beside 11 (some .int) ∈ TB := tb_5 (List.mem_of_getElem? (i := 116) rfl) rfl
theorem yd_X9_beside : yX9_beside.cls ≠ "java/lang/invoke/MethodHandle" ∧ yX9_beside.cls ≠ "java/lang/invoke/VarHandle" ∧ (parseMethodDescriptor yX9_beside.desc).map (fun d => d.parameters.length) = some 4 := by decide +kernel
theorem wd_1074 : Cond.instanceMethod yX9_beside ∈ TB := tb_5 (List.mem_of_getElem? (i := 114) rfl) rfl
theorem wd_1075 : Cond.selects yX9_beside.cls yX9_beside yX9_beside ∈ TB := tb_5 (List.mem_of_getElem? (i := 115) rfl) rfl
theorem mv_RL_137 : Mv RL 137 yX9_beside cX9_beside 11 (some .int) 4 := ⟨wd_1073, wd_1074, wd_1075, wd_1, wd_1076, (yd_X9_beside).1, (yd_X9_beside).2.1, (yd_X9_beside).2.2⟩
theorem wd_1777 : Cond.methodLink RL 140 yX10_beside ∈ TB := tb_8 (List.mem_of_getElem? (i := 97) rfl) rfl
theorem wd_1780 : Cond.code yX10_beside cX10_beside 8 (some .int) ∈ TB := tb_8 (List.mem_of_getElem? (i := 100) rfl) rfl
theorem yd_X10_beside : yX10_beside.cls ≠ "java/lang/invoke/MethodHandle" ∧ yX10_beside.cls ≠ "java/lang/invoke/VarHandle" ∧ (parseMethodDescriptor yX10_beside.desc).map (fun d => d.parameters.length) = some 4 := by decide +kernel
theorem wd_1778 : Cond.instanceMethod yX10_beside ∈ TB := tb_8 (List.mem_of_getElem? (i := 98) rfl) rfl
theorem wd_1779 : Cond.selects yX10_beside.cls yX10_beside yX10_beside ∈ TB := tb_8 (List.mem_of_getElem? (i := 99) rfl) rfl
theorem mv_RL_140 : Mv RL 140 yX10_beside cX10_beside 8 (some .int) 4 := ⟨wd_1777, wd_1778, wd_1779, wd_11, wd_1780, (yd_X10_beside).1, (yd_X10_beside).2.1, (yd_X10_beside).2.2⟩
theorem wd_1077 : Cond.methodLink RL 141 yX9_moved ∈ TB := tb_5 (List.mem_of_getElem? (i := 117) rfl) rfl
theorem wd_1080 : Cond.code yX9_moved cX9_moved 4 (some .int) ∈ TB := tb_5 (List.mem_of_getElem? (i := 120) rfl) rfl
theorem yd_X9_moved : yX9_moved.cls ≠ "java/lang/invoke/MethodHandle" ∧ yX9_moved.cls ≠ "java/lang/invoke/VarHandle" ∧ (parseMethodDescriptor yX9_moved.desc).map (fun d => d.parameters.length) = some 3 := by decide +kernel
theorem wd_1078 : Cond.instanceMethod yX9_moved ∈ TB := tb_5 (List.mem_of_getElem? (i := 118) rfl) rfl
theorem wd_1079 : Cond.selects yX9_moved.cls yX9_moved yX9_moved ∈ TB := tb_5 (List.mem_of_getElem? (i := 119) rfl) rfl
theorem mv_RL_141 : Mv RL 141 yX9_moved cX9_moved 4 (some .int) 3 := ⟨wd_1077, wd_1078, wd_1079, wd_1, wd_1080, (yd_X9_moved).1, (yd_X9_moved).2.1, (yd_X9_moved).2.2⟩
theorem wd_1781 : Cond.methodLink RL 144 yX10_moved ∈ TB := tb_8 (List.mem_of_getElem? (i := 101) rfl) rfl
theorem wd_1784 : Cond.code yX10_moved cX10_moved 4 (some .int) ∈ TB := tb_8 (List.mem_of_getElem? (i := 104) rfl) rfl
theorem yd_X10_moved : yX10_moved.cls ≠ "java/lang/invoke/MethodHandle" ∧ yX10_moved.cls ≠ "java/lang/invoke/VarHandle" ∧ (parseMethodDescriptor yX10_moved.desc).map (fun d => d.parameters.length) = some 3 := by decide +kernel
theorem wd_1782 : Cond.instanceMethod yX10_moved ∈ TB := tb_8 (List.mem_of_getElem? (i := 102) rfl) rfl
theorem wd_1783 : Cond.selects yX10_moved.cls yX10_moved yX10_moved ∈ TB := tb_8 (List.mem_of_getElem? (i := 103) rfl) rfl
theorem mv_RL_144 : Mv RL 144 yX10_moved cX10_moved 4 (some .int) 3 := ⟨wd_1781, wd_1782, wd_1783, wd_11, wd_1784, (yd_X10_moved).1, (yd_X10_moved).2.1, (yd_X10_moved).2.2⟩
theorem wd_1093 : Cond.methodLink RL 145 yX9_movedTo ∈ TB := tb_5 (List.mem_of_getElem? (i := 133) rfl) rfl
theorem wd_1096 : Cond.code yX9_movedTo cX9_movedTo 5 (some .int) ∈ TB := tb_5 (List.mem_of_getElem? (i := 136) rfl) rfl
theorem yd_X9_movedTo : yX9_movedTo.cls ≠ "java/lang/invoke/MethodHandle" ∧ yX9_movedTo.cls ≠ "java/lang/invoke/VarHandle" ∧ (parseMethodDescriptor yX9_movedTo.desc).map (fun d => d.parameters.length) = some 4 := by decide +kernel
theorem wd_1094 : Cond.instanceMethod yX9_movedTo ∈ TB := tb_5 (List.mem_of_getElem? (i := 134) rfl) rfl
theorem wd_1095 : Cond.selects yX9_movedTo.cls yX9_movedTo yX9_movedTo ∈ TB := tb_5 (List.mem_of_getElem? (i := 135) rfl) rfl
theorem mv_RL_145 : Mv RL 145 yX9_movedTo cX9_movedTo 5 (some .int) 4 := ⟨wd_1093, wd_1094, wd_1095, wd_1, wd_1096, (yd_X9_movedTo).1, (yd_X9_movedTo).2.1, (yd_X9_movedTo).2.2⟩
theorem wd_1809 : Cond.methodLink RL 148 yX10_movedTo ∈ TB := tb_8 (List.mem_of_getElem? (i := 129) rfl) rfl
theorem wd_1812 : Cond.code yX10_movedTo cX10_movedTo 5 (some .int) ∈ TB := tb_8 (List.mem_of_getElem? (i := 132) rfl) rfl
theorem yd_X10_movedTo : yX10_movedTo.cls ≠ "java/lang/invoke/MethodHandle" ∧ yX10_movedTo.cls ≠ "java/lang/invoke/VarHandle" ∧ (parseMethodDescriptor yX10_movedTo.desc).map (fun d => d.parameters.length) = some 4 := by decide +kernel
theorem wd_1810 : Cond.instanceMethod yX10_movedTo ∈ TB := tb_8 (List.mem_of_getElem? (i := 130) rfl) rfl
theorem wd_1811 : Cond.selects yX10_movedTo.cls yX10_movedTo yX10_movedTo ∈ TB := tb_8 (List.mem_of_getElem? (i := 131) rfl) rfl
theorem mv_RL_148 : Mv RL 148 yX10_movedTo cX10_movedTo 5 (some .int) 4 := ⟨wd_1809, wd_1810, wd_1811, wd_11, wd_1812, (yd_X10_movedTo).1, (yd_X10_movedTo).2.1, (yd_X10_movedTo).2.2⟩
theorem wd_1097 : Cond.methodLink RL 149 yX9_quiet ∈ TB := tb_5 (List.mem_of_getElem? (i := 137) rfl) rfl
theorem wd_1100 : Cond.code yX9_quiet cX9_quiet 7 (some .int) ∈ TB := tb_5 (List.mem_of_getElem? (i := 140) rfl) rfl
theorem yd_X9_quiet : yX9_quiet.cls ≠ "java/lang/invoke/MethodHandle" ∧ yX9_quiet.cls ≠ "java/lang/invoke/VarHandle" ∧ (parseMethodDescriptor yX9_quiet.desc).map (fun d => d.parameters.length) = some 3 := by decide +kernel
theorem wd_1098 : Cond.instanceMethod yX9_quiet ∈ TB := tb_5 (List.mem_of_getElem? (i := 138) rfl) rfl
theorem wd_1099 : Cond.selects yX9_quiet.cls yX9_quiet yX9_quiet ∈ TB := tb_5 (List.mem_of_getElem? (i := 139) rfl) rfl
theorem mv_RL_149 : Mv RL 149 yX9_quiet cX9_quiet 7 (some .int) 3 := ⟨wd_1097, wd_1098, wd_1099, wd_1, wd_1100, (yd_X9_quiet).1, (yd_X9_quiet).2.1, (yd_X9_quiet).2.2⟩
theorem wd_1813 : Cond.methodLink RL 152 yX10_quiet ∈ TB := tb_8 (List.mem_of_getElem? (i := 133) rfl) rfl
theorem wd_1816 : Cond.code yX10_quiet cX10_quiet 8 (some .int) ∈ TB := tb_8 (List.mem_of_getElem? (i := 136) rfl) rfl
theorem yd_X10_quiet : yX10_quiet.cls ≠ "java/lang/invoke/MethodHandle" ∧ yX10_quiet.cls ≠ "java/lang/invoke/VarHandle" ∧ (parseMethodDescriptor yX10_quiet.desc).map (fun d => d.parameters.length) = some 3 := by decide +kernel
theorem wd_1814 : Cond.instanceMethod yX10_quiet ∈ TB := tb_8 (List.mem_of_getElem? (i := 134) rfl) rfl
theorem wd_1815 : Cond.selects yX10_quiet.cls yX10_quiet yX10_quiet ∈ TB := tb_8 (List.mem_of_getElem? (i := 135) rfl) rfl
theorem mv_RL_152 : Mv RL 152 yX10_quiet cX10_quiet 8 (some .int) 3 := ⟨wd_1813, wd_1814, wd_1815, wd_11, wd_1816, (yd_X10_quiet).1, (yd_X10_quiet).2.1, (yd_X10_quiet).2.2⟩
theorem wd_1105 : Cond.methodLink RL 153 yX9_room ∈ TB := tb_5 (List.mem_of_getElem? (i := 145) rfl) rfl
theorem wd_1108 : Cond.code yX9_room cX9_room 5 (some .int) ∈ TB := tb_5 (List.mem_of_getElem? (i := 148) rfl) rfl
theorem yd_X9_room : yX9_room.cls ≠ "java/lang/invoke/MethodHandle" ∧ yX9_room.cls ≠ "java/lang/invoke/VarHandle" ∧ (parseMethodDescriptor yX9_room.desc).map (fun d => d.parameters.length) = some 3 := by decide +kernel
theorem wd_1106 : Cond.instanceMethod yX9_room ∈ TB := tb_5 (List.mem_of_getElem? (i := 146) rfl) rfl
theorem wd_1107 : Cond.selects yX9_room.cls yX9_room yX9_room ∈ TB := tb_5 (List.mem_of_getElem? (i := 147) rfl) rfl
theorem mv_RL_153 : Mv RL 153 yX9_room cX9_room 5 (some .int) 3 := ⟨wd_1105, wd_1106, wd_1107, wd_1, wd_1108, (yd_X9_room).1, (yd_X9_room).2.1, (yd_X9_room).2.2⟩
theorem wd_1817 : Cond.methodLink RL 156 yX10_room ∈ TB := tb_8 (List.mem_of_getElem? (i := 137) rfl) rfl
theorem wd_1820 : Cond.code yX10_room cX10_room 5 (some .int) ∈ TB := tb_8 (List.mem_of_getElem? (i := 140) rfl) rfl
theorem yd_X10_room : yX10_room.cls ≠ "java/lang/invoke/MethodHandle" ∧ yX10_room.cls ≠ "java/lang/invoke/VarHandle" ∧ (parseMethodDescriptor yX10_room.desc).map (fun d => d.parameters.length) = some 3 := by decide +kernel
theorem wd_1818 : Cond.instanceMethod yX10_room ∈ TB := tb_8 (List.mem_of_getElem? (i := 138) rfl) rfl
theorem wd_1819 : Cond.selects yX10_room.cls yX10_room yX10_room ∈ TB := tb_8 (List.mem_of_getElem? (i := 139) rfl) rfl
theorem mv_RL_156 : Mv RL 156 yX10_room cX10_room 5 (some .int) 3 := ⟨wd_1817, wd_1818, wd_1819, wd_11, wd_1820, (yd_X10_room).1, (yd_X10_room).2.1, (yd_X10_room).2.2⟩
theorem wd_1109 : Cond.methodLink RL 157 yX9_by ∈ TB := tb_5 (List.mem_of_getElem? (i := 149) rfl) rfl
theorem wd_1112 : Cond.code yX9_by cX9_by 8 (some .int) ∈ TB := tb_5 (List.mem_of_getElem? (i := 152) rfl) rfl
theorem yd_X9_by : yX9_by.cls ≠ "java/lang/invoke/MethodHandle" ∧ yX9_by.cls ≠ "java/lang/invoke/VarHandle" ∧ (parseMethodDescriptor yX9_by.desc).map (fun d => d.parameters.length) = some 4 := by decide +kernel
theorem wd_1110 : Cond.instanceMethod yX9_by ∈ TB := tb_5 (List.mem_of_getElem? (i := 150) rfl) rfl
theorem wd_1111 : Cond.selects yX9_by.cls yX9_by yX9_by ∈ TB := tb_5 (List.mem_of_getElem? (i := 151) rfl) rfl
theorem mv_RL_157 : Mv RL 157 yX9_by cX9_by 8 (some .int) 4 := ⟨wd_1109, wd_1110, wd_1111, wd_1, wd_1112, (yd_X9_by).1, (yd_X9_by).2.1, (yd_X9_by).2.2⟩
theorem wd_1821 : Cond.methodLink RL 160 yX10_by ∈ TB := tb_8 (List.mem_of_getElem? (i := 141) rfl) rfl
theorem wd_1824 : Cond.code yX10_by cX10_by 7 (some .int) ∈ TB := tb_8 (List.mem_of_getElem? (i := 144) rfl) rfl
theorem yd_X10_by : yX10_by.cls ≠ "java/lang/invoke/MethodHandle" ∧ yX10_by.cls ≠ "java/lang/invoke/VarHandle" ∧ (parseMethodDescriptor yX10_by.desc).map (fun d => d.parameters.length) = some 4 := by decide +kernel
theorem wd_1822 : Cond.instanceMethod yX10_by ∈ TB := tb_8 (List.mem_of_getElem? (i := 142) rfl) rfl
theorem wd_1823 : Cond.selects yX10_by.cls yX10_by yX10_by ∈ TB := tb_8 (List.mem_of_getElem? (i := 143) rfl) rfl
theorem mv_RL_160 : Mv RL 160 yX10_by cX10_by 7 (some .int) 4 := ⟨wd_1821, wd_1822, wd_1823, wd_11, wd_1824, (yd_X10_by).1, (yd_X10_by).2.1, (yd_X10_by).2.2⟩
theorem wd_1113 : Cond.methodLink RL 161 yX9_days ∈ TB := tb_5 (List.mem_of_getElem? (i := 153) rfl) rfl
theorem wd_1116 : Cond.code yX9_days cX9_days 9 (some .int) ∈ TB := tb_5 (List.mem_of_getElem? (i := 156) rfl) rfl
theorem yd_X9_days : yX9_days.cls ≠ "java/lang/invoke/MethodHandle" ∧ yX9_days.cls ≠ "java/lang/invoke/VarHandle" ∧ (parseMethodDescriptor yX9_days.desc).map (fun d => d.parameters.length) = some 3 := by decide +kernel
theorem wd_1114 : Cond.instanceMethod yX9_days ∈ TB := tb_5 (List.mem_of_getElem? (i := 154) rfl) rfl
theorem wd_1115 : Cond.selects yX9_days.cls yX9_days yX9_days ∈ TB := tb_5 (List.mem_of_getElem? (i := 155) rfl) rfl
theorem mv_RL_161 : Mv RL 161 yX9_days cX9_days 9 (some .int) 3 := ⟨wd_1113, wd_1114, wd_1115, wd_1, wd_1116, (yd_X9_days).1, (yd_X9_days).2.1, (yd_X9_days).2.2⟩
theorem wd_1825 : Cond.methodLink RL 165 yX10_days ∈ TB := tb_8 (List.mem_of_getElem? (i := 145) rfl) rfl
theorem wd_1828 : Cond.code yX10_days cX10_days 6 (some .int) ∈ TB := tb_8 (List.mem_of_getElem? (i := 148) rfl) rfl
theorem yd_X10_days : yX10_days.cls ≠ "java/lang/invoke/MethodHandle" ∧ yX10_days.cls ≠ "java/lang/invoke/VarHandle" ∧ (parseMethodDescriptor yX10_days.desc).map (fun d => d.parameters.length) = some 3 := by decide +kernel
theorem wd_1826 : Cond.instanceMethod yX10_days ∈ TB := tb_8 (List.mem_of_getElem? (i := 146) rfl) rfl
theorem wd_1827 : Cond.selects yX10_days.cls yX10_days yX10_days ∈ TB := tb_8 (List.mem_of_getElem? (i := 147) rfl) rfl
theorem mv_RL_165 : Mv RL 165 yX10_days cX10_days 6 (some .int) 3 := ⟨wd_1825, wd_1826, wd_1827, wd_11, wd_1828, (yd_X10_days).1, (yd_X10_days).2.1, (yd_X10_days).2.2⟩
theorem wd_1117 : Cond.methodLink RL 166 yX9_feud ∈ TB := tb_5 (List.mem_of_getElem? (i := 157) rfl) rfl
theorem wd_1120 : Cond.code yX9_feud cX9_feud 10 (some .int) ∈ TB := tb_5 (List.mem_of_getElem? (i := 160) rfl) rfl
theorem yd_X9_feud : yX9_feud.cls ≠ "java/lang/invoke/MethodHandle" ∧ yX9_feud.cls ≠ "java/lang/invoke/VarHandle" ∧ (parseMethodDescriptor yX9_feud.desc).map (fun d => d.parameters.length) = some 5 := by decide +kernel
theorem wd_1118 : Cond.instanceMethod yX9_feud ∈ TB := tb_5 (List.mem_of_getElem? (i := 158) rfl) rfl
theorem wd_1119 : Cond.selects yX9_feud.cls yX9_feud yX9_feud ∈ TB := tb_5 (List.mem_of_getElem? (i := 159) rfl) rfl
theorem mv_RL_166 : Mv RL 166 yX9_feud cX9_feud 10 (some .int) 5 := ⟨wd_1117, wd_1118, wd_1119, wd_1, wd_1120, (yd_X9_feud).1, (yd_X9_feud).2.1, (yd_X9_feud).2.2⟩
theorem wd_1829 : Cond.methodLink RL 169 yX10_feud ∈ TB := tb_8 (List.mem_of_getElem? (i := 149) rfl) rfl
theorem wd_1832 : Cond.code yX10_feud cX10_feud 10 (some .int) ∈ TB := tb_8 (List.mem_of_getElem? (i := 152) rfl) rfl
theorem yd_X10_feud : yX10_feud.cls ≠ "java/lang/invoke/MethodHandle" ∧ yX10_feud.cls ≠ "java/lang/invoke/VarHandle" ∧ (parseMethodDescriptor yX10_feud.desc).map (fun d => d.parameters.length) = some 5 := by decide +kernel
theorem wd_1830 : Cond.instanceMethod yX10_feud ∈ TB := tb_8 (List.mem_of_getElem? (i := 150) rfl) rfl
theorem wd_1831 : Cond.selects yX10_feud.cls yX10_feud yX10_feud ∈ TB := tb_8 (List.mem_of_getElem? (i := 151) rfl) rfl
theorem mv_RL_169 : Mv RL 169 yX10_feud cX10_feud 10 (some .int) 5 := ⟨wd_1829, wd_1830, wd_1831, wd_11, wd_1832, (yd_X10_feud).1, (yd_X10_feud).2.1, (yd_X10_feud).2.2⟩
theorem wd_1121 : Cond.methodLink RL 170 yX9_count ∈ TB := tb_5 (List.mem_of_getElem? (i := 161) rfl) rfl
theorem wd_1124 : Cond.code yX9_count cX9_count 2 (some .int) ∈ TB := tb_5 (List.mem_of_getElem? (i := 164) rfl) rfl
theorem yd_X9_count : yX9_count.cls ≠ "java/lang/invoke/MethodHandle" ∧ yX9_count.cls ≠ "java/lang/invoke/VarHandle" ∧ (parseMethodDescriptor yX9_count.desc).map (fun d => d.parameters.length) = some 1 := by decide +kernel
theorem wd_1122 : Cond.instanceMethod yX9_count ∈ TB := tb_5 (List.mem_of_getElem? (i := 162) rfl) rfl
theorem wd_1123 : Cond.selects yX9_count.cls yX9_count yX9_count ∈ TB := tb_5 (List.mem_of_getElem? (i := 163) rfl) rfl
theorem mv_RL_170 : Mv RL 170 yX9_count cX9_count 2 (some .int) 1 := ⟨wd_1121, wd_1122, wd_1123, wd_1, wd_1124, (yd_X9_count).1, (yd_X9_count).2.1, (yd_X9_count).2.2⟩
theorem wd_1833 : Cond.methodLink RL 173 yX10_count ∈ TB := tb_8 (List.mem_of_getElem? (i := 153) rfl) rfl
theorem wd_1836 : Cond.code yX10_count cX10_count 2 (some .int) ∈ TB := tb_8 (List.mem_of_getElem? (i := 156) rfl) rfl
theorem yd_X10_count : yX10_count.cls ≠ "java/lang/invoke/MethodHandle" ∧ yX10_count.cls ≠ "java/lang/invoke/VarHandle" ∧ (parseMethodDescriptor yX10_count.desc).map (fun d => d.parameters.length) = some 1 := by decide +kernel
theorem wd_1834 : Cond.instanceMethod yX10_count ∈ TB := tb_8 (List.mem_of_getElem? (i := 154) rfl) rfl
theorem wd_1835 : Cond.selects yX10_count.cls yX10_count yX10_count ∈ TB := tb_8 (List.mem_of_getElem? (i := 155) rfl) rfl
theorem mv_RL_173 : Mv RL 173 yX10_count cX10_count 2 (some .int) 1 := ⟨wd_1833, wd_1834, wd_1835, wd_11, wd_1836, (yd_X10_count).1, (yd_X10_count).2.1, (yd_X10_count).2.2⟩
theorem wd_1125 : Cond.methodLink RL 174 yX9_image ∈ TB := tb_5 (List.mem_of_getElem? (i := 165) rfl) rfl
theorem wd_1128 : Cond.code yX9_image cX9_image 2 (some .boolean) ∈ TB := tb_5 (List.mem_of_getElem? (i := 168) rfl) rfl
theorem yd_X9_image : yX9_image.cls ≠ "java/lang/invoke/MethodHandle" ∧ yX9_image.cls ≠ "java/lang/invoke/VarHandle" ∧ (parseMethodDescriptor yX9_image.desc).map (fun d => d.parameters.length) = some 1 := by decide +kernel
theorem wd_1126 : Cond.instanceMethod yX9_image ∈ TB := tb_5 (List.mem_of_getElem? (i := 166) rfl) rfl
theorem wd_1127 : Cond.selects yX9_image.cls yX9_image yX9_image ∈ TB := tb_5 (List.mem_of_getElem? (i := 167) rfl) rfl
theorem mv_RL_174 : Mv RL 174 yX9_image cX9_image 2 (some .boolean) 1 := ⟨wd_1125, wd_1126, wd_1127, wd_1, wd_1128, (yd_X9_image).1, (yd_X9_image).2.1, (yd_X9_image).2.2⟩
theorem wd_1837 : Cond.methodLink RL 177 yX10_image ∈ TB := tb_8 (List.mem_of_getElem? (i := 157) rfl) rfl
theorem wd_1840 : Cond.code yX10_image cX10_image 2 (some .boolean) ∈ TB := tb_8 (List.mem_of_getElem? (i := 160) rfl) rfl
theorem yd_X10_image : yX10_image.cls ≠ "java/lang/invoke/MethodHandle" ∧ yX10_image.cls ≠ "java/lang/invoke/VarHandle" ∧ (parseMethodDescriptor yX10_image.desc).map (fun d => d.parameters.length) = some 1 := by decide +kernel
theorem wd_1838 : Cond.instanceMethod yX10_image ∈ TB := tb_8 (List.mem_of_getElem? (i := 158) rfl) rfl
theorem wd_1839 : Cond.selects yX10_image.cls yX10_image yX10_image ∈ TB := tb_8 (List.mem_of_getElem? (i := 159) rfl) rfl
theorem mv_RL_177 : Mv RL 177 yX10_image cX10_image 2 (some .boolean) 1 := ⟨wd_1837, wd_1838, wd_1839, wd_11, wd_1840, (yd_X10_image).1, (yd_X10_image).2.1, (yd_X10_image).2.2⟩
theorem wd_1135 : Cond.methodLink RL 178 yX9_again ∈ TB := tb_5 (List.mem_of_getElem? (i := 175) rfl) rfl
theorem wd_1138 : Cond.code yX9_again cX9_again 2 (some .boolean) ∈ TB := tb_5 (List.mem_of_getElem? (i := 178) rfl) rfl
theorem yd_X9_again : yX9_again.cls ≠ "java/lang/invoke/MethodHandle" ∧ yX9_again.cls ≠ "java/lang/invoke/VarHandle" ∧ (parseMethodDescriptor yX9_again.desc).map (fun d => d.parameters.length) = some 1 := by decide +kernel
theorem wd_1136 : Cond.instanceMethod yX9_again ∈ TB := tb_5 (List.mem_of_getElem? (i := 176) rfl) rfl
theorem wd_1137 : Cond.selects yX9_again.cls yX9_again yX9_again ∈ TB := tb_5 (List.mem_of_getElem? (i := 177) rfl) rfl
theorem mv_RL_178 : Mv RL 178 yX9_again cX9_again 2 (some .boolean) 1 := ⟨wd_1135, wd_1136, wd_1137, wd_1, wd_1138, (yd_X9_again).1, (yd_X9_again).2.1, (yd_X9_again).2.2⟩
theorem wd_1848 : Cond.methodLink RL 181 yX10_again ∈ TB := tb_8 (List.mem_of_getElem? (i := 168) rfl) rfl
theorem wd_1851 : Cond.code yX10_again cX10_again 2 (some .boolean) ∈ TB := tb_8 (List.mem_of_getElem? (i := 171) rfl) rfl
theorem yd_X10_again : yX10_again.cls ≠ "java/lang/invoke/MethodHandle" ∧ yX10_again.cls ≠ "java/lang/invoke/VarHandle" ∧ (parseMethodDescriptor yX10_again.desc).map (fun d => d.parameters.length) = some 1 := by decide +kernel
theorem wd_1849 : Cond.instanceMethod yX10_again ∈ TB := tb_8 (List.mem_of_getElem? (i := 169) rfl) rfl
theorem wd_1850 : Cond.selects yX10_again.cls yX10_again yX10_again ∈ TB := tb_8 (List.mem_of_getElem? (i := 170) rfl) rfl
theorem mv_RL_181 : Mv RL 181 yX10_again cX10_again 2 (some .boolean) 1 := ⟨wd_1848, wd_1849, wd_1850, wd_11, wd_1851, (yd_X10_again).1, (yd_X10_again).2.1, (yd_X10_again).2.2⟩
theorem wd_1144 : Cond.methodLink RX10 1 Lib.objectInit ∈ TB := tb_5 (List.mem_of_getElem? (i := 184) rfl) rfl
theorem mo_RX10_1 : Cond.methodLink RX10 1 Lib.objectInit ∈ TB ∧ Cond.instanceMethod Lib.objectInit ∈ TB ∧ Cond.code Lib.objectInit ⟨#[0xb1]⟩ 1 none ∈ TB := ⟨wd_1144, wd_26, wd_27⟩
theorem wd_1845 : Cond.methodLink RX10 184 yX10_move ∈ TB := tb_8 (List.mem_of_getElem? (i := 165) rfl) rfl
theorem wd_1847 : Cond.code yX10_move cX10_move 5 none ∈ TB := tb_8 (List.mem_of_getElem? (i := 167) rfl) rfl
theorem yd_X10_move : yX10_move.cls ≠ "java/lang/invoke/MethodHandle" ∧ yX10_move.cls ≠ "java/lang/invoke/VarHandle" ∧ (parseMethodDescriptor yX10_move.desc).map (fun d => d.parameters.length) = some 4 := by decide +kernel
theorem wd_1846 : Cond.static yX10_move ∈ TB := tb_8 (List.mem_of_getElem? (i := 166) rfl) rfl
theorem mv_RX10_184 : Ms RX10 184 yX10_move cX10_move 5 none 4 := ⟨wd_1845, wd_1846, wd_11, wd_1847, (yd_X10_move).1, (yd_X10_move).2.1, (yd_X10_move).2.2⟩
theorem wd_1410 : Cond.methodLink RX10 188 yX10_in ∈ TB := tb_6 (List.mem_of_getElem? (i := 210) rfl) rfl
theorem wd_1412 : Cond.code yX10_in cX10_in 3 (some .boolean) ∈ TB := tb_6 (List.mem_of_getElem? (i := 212) rfl) rfl
theorem yd_X10_in : yX10_in.cls ≠ "java/lang/invoke/MethodHandle" ∧ yX10_in.cls ≠ "java/lang/invoke/VarHandle" ∧ (parseMethodDescriptor yX10_in.desc).map (fun d => d.parameters.length) = some 3 := by decide +kernel
theorem wd_1411 : Cond.static yX10_in ∈ TB := tb_6 (List.mem_of_getElem? (i := 211) rfl) rfl
theorem mv_RX10_188 : Ms RX10 188 yX10_in cX10_in 3 (some .boolean) 3 := ⟨wd_1410, wd_1411, wd_11, wd_1412, (yd_X10_in).1, (yd_X10_in).2.1, (yd_X10_in).2.2⟩
theorem wd_1421 : Cond.methodLink RX10 192 yX10_isTown ∈ TB := tb_6 (List.mem_of_getElem? (i := 221) rfl) rfl
theorem wd_1424 : Cond.code yX10_isTown cX10_isTown 2 (some .boolean) ∈ TB := tb_6 (List.mem_of_getElem? (i := 224) rfl) rfl
theorem yd_X10_isTown : yX10_isTown.cls ≠ "java/lang/invoke/MethodHandle" ∧ yX10_isTown.cls ≠ "java/lang/invoke/VarHandle" ∧ (parseMethodDescriptor yX10_isTown.desc).map (fun d => d.parameters.length) = some 1 := by decide +kernel
theorem wd_1423 : Cond.instanceMethod yX10_isTown ∈ TB := tb_6 (List.mem_of_getElem? (i := 223) rfl) rfl
theorem wp_49 : Cond.selects yX10_isTown.cls yX10_isTown yX10_isTown ∈ TB := tbS (List.mem_of_getElem? (i := 49) (by decide +kernel)) rfl
theorem mv_RX10_192 : Mv RX10 192 yX10_isTown cX10_isTown 2 (some .boolean) 1 := ⟨wd_1421, wd_1423, wp_49, wd_11, wd_1424, (yd_X10_isTown).1, (yd_X10_isTown).2.1, (yd_X10_isTown).2.2⟩
theorem wd_1544 : Cond.methodLink RX10 196 yX10_of ∈ TB := tb_7 (List.mem_of_getElem? (i := 104) rfl) rfl
theorem wd_1547 : Cond.code yX10_of cX10_of 3 (some .int) ∈ TB := tb_7 (List.mem_of_getElem? (i := 107) rfl) rfl
theorem yd_X10_of : yX10_of.cls ≠ "java/lang/invoke/MethodHandle" ∧ yX10_of.cls ≠ "java/lang/invoke/VarHandle" ∧ (parseMethodDescriptor yX10_of.desc).map (fun d => d.parameters.length) = some 2 := by decide +kernel
theorem wd_1546 : Cond.instanceMethod yX10_of ∈ TB := tb_7 (List.mem_of_getElem? (i := 106) rfl) rfl
theorem wp_72 : Cond.selects yX10_of.cls yX10_of yX10_of ∈ TB := tbS (List.mem_of_getElem? (i := 72) (by decide +kernel)) rfl
theorem mv_RX10_196 : Mv RX10 196 yX10_of cX10_of 3 (some .int) 2 := ⟨wd_1544, wd_1546, wp_72, wd_11, wd_1547, (yd_X10_of).1, (yd_X10_of).2.1, (yd_X10_of).2.2⟩
theorem wd_1402 : Cond.methodLink RX10 200 yX10_four ∈ TB := tb_6 (List.mem_of_getElem? (i := 202) rfl) rfl
theorem wd_1405 : Cond.code yX10_four cX10_four 3 none ∈ TB := tb_6 (List.mem_of_getElem? (i := 205) rfl) rfl
theorem yd_X10_four : yX10_four.cls ≠ "java/lang/invoke/MethodHandle" ∧ yX10_four.cls ≠ "java/lang/invoke/VarHandle" ∧ (parseMethodDescriptor yX10_four.desc).map (fun d => d.parameters.length) = some 1 := by decide +kernel
theorem wd_1404 : Cond.instanceMethod yX10_four ∈ TB := tb_6 (List.mem_of_getElem? (i := 204) rfl) rfl
theorem wp_47 : Cond.selects yX10_four.cls yX10_four yX10_four ∈ TB := tbS (List.mem_of_getElem? (i := 47) (by decide +kernel)) rfl
theorem mv_RX10_200 : Mv RX10 200 yX10_four cX10_four 3 none 1 := ⟨wd_1402, wd_1404, wp_47, wd_11, wd_1405, (yd_X10_four).1, (yd_X10_four).2.1, (yd_X10_four).2.2⟩
theorem wd_1433 : Cond.methodLink RX10 210 yX10_see ∈ TB := tb_6 (List.mem_of_getElem? (i := 233) rfl) rfl
theorem wd_1436 : Cond.code yX10_see cX10_see 1 (some .int) ∈ TB := tb_6 (List.mem_of_getElem? (i := 236) rfl) rfl
theorem yd_X10_see : yX10_see.cls ≠ "java/lang/invoke/MethodHandle" ∧ yX10_see.cls ≠ "java/lang/invoke/VarHandle" ∧ (parseMethodDescriptor yX10_see.desc).map (fun d => d.parameters.length) = some 0 := by decide +kernel
theorem wd_1435 : Cond.instanceMethod yX10_see ∈ TB := tb_6 (List.mem_of_getElem? (i := 235) rfl) rfl
theorem wp_52 : Cond.selects yX10_see.cls yX10_see yX10_see ∈ TB := tbS (List.mem_of_getElem? (i := 52) (by decide +kernel)) rfl
theorem mv_RX10_210 : Mv RX10 210 yX10_see cX10_see 1 (some .int) 0 := ⟨wd_1433, wd_1435, wp_52, wd_11, wd_1436, (yd_X10_see).1, (yd_X10_see).2.1, (yd_X10_see).2.2⟩
theorem wd_1446 : Cond.methodLink RX10 236 yX10_stops ∈ TB := tb_7 (List.mem_of_getElem? (i := 6) rfl) rfl
theorem wd_1449 : Cond.code yX10_stops cX10_stops 1 (some .boolean) ∈ TB := tb_7 (List.mem_of_getElem? (i := 9) rfl) rfl
theorem yd_X10_stops : yX10_stops.cls ≠ "java/lang/invoke/MethodHandle" ∧ yX10_stops.cls ≠ "java/lang/invoke/VarHandle" ∧ (parseMethodDescriptor yX10_stops.desc).map (fun d => d.parameters.length) = some 0 := by decide +kernel
theorem wd_1448 : Cond.instanceMethod yX10_stops ∈ TB := tb_7 (List.mem_of_getElem? (i := 8) rfl) rfl
theorem wp_55 : Cond.selects yX10_stops.cls yX10_stops yX10_stops ∈ TB := tbS (List.mem_of_getElem? (i := 55) (by decide +kernel)) rfl
theorem mv_RX10_236 : Mv RX10 236 yX10_stops cX10_stops 1 (some .boolean) 0 := ⟨wd_1446, wd_1448, wp_55, wd_11, wd_1449, (yd_X10_stops).1, (yd_X10_stops).2.1, (yd_X10_stops).2.2⟩
theorem wd_1454 : Cond.methodLink RX10 243 yX10_later ∈ TB := tb_7 (List.mem_of_getElem? (i := 14) rfl) rfl
theorem wd_1457 : Cond.code yX10_later cX10_later 3 none ∈ TB := tb_7 (List.mem_of_getElem? (i := 17) rfl) rfl
theorem yd_X10_later : yX10_later.cls ≠ "java/lang/invoke/MethodHandle" ∧ yX10_later.cls ≠ "java/lang/invoke/VarHandle" ∧ (parseMethodDescriptor yX10_later.desc).map (fun d => d.parameters.length) = some 2 := by decide +kernel
theorem wd_1456 : Cond.instanceMethod yX10_later ∈ TB := tb_7 (List.mem_of_getElem? (i := 16) rfl) rfl
theorem wp_57 : Cond.selects yX10_later.cls yX10_later yX10_later ∈ TB := tbS (List.mem_of_getElem? (i := 57) (by decide +kernel)) rfl
theorem mv_RX10_243 : Mv RX10 243 yX10_later cX10_later 3 none 2 := ⟨wd_1454, wd_1456, wp_57, wd_11, wd_1457, (yd_X10_later).1, (yd_X10_later).2.1, (yd_X10_later).2.2⟩
theorem wd_1429 : Cond.methodLink RX10 251 yX10_token ∈ TB := tb_6 (List.mem_of_getElem? (i := 229) rfl) rfl
theorem wd_1432 : Cond.code yX10_token cX10_token 3 none ∈ TB := tb_6 (List.mem_of_getElem? (i := 232) rfl) rfl
theorem yd_X10_token : yX10_token.cls ≠ "java/lang/invoke/MethodHandle" ∧ yX10_token.cls ≠ "java/lang/invoke/VarHandle" ∧ (parseMethodDescriptor yX10_token.desc).map (fun d => d.parameters.length) = some 0 := by decide +kernel
theorem wd_1431 : Cond.instanceMethod yX10_token ∈ TB := tb_6 (List.mem_of_getElem? (i := 231) rfl) rfl
theorem wp_51 : Cond.selects yX10_token.cls yX10_token yX10_token ∈ TB := tbS (List.mem_of_getElem? (i := 51) (by decide +kernel)) rfl
theorem mv_RX10_251 : Mv RX10 251 yX10_token cX10_token 3 none 0 := ⟨wd_1429, wd_1431, wp_51, wd_11, wd_1432, (yd_X10_token).1, (yd_X10_token).2.1, (yd_X10_token).2.2⟩
theorem wd_1450 : Cond.methodLink RX10 254 yX10_number ∈ TB := tb_7 (List.mem_of_getElem? (i := 10) rfl) rfl
theorem wd_1453 : Cond.code yX10_number cX10_number 3 (some .boolean) ∈ TB := tb_7 (List.mem_of_getElem? (i := 13) rfl) rfl
theorem yd_X10_number : yX10_number.cls ≠ "java/lang/invoke/MethodHandle" ∧ yX10_number.cls ≠ "java/lang/invoke/VarHandle" ∧ (parseMethodDescriptor yX10_number.desc).map (fun d => d.parameters.length) = some 2 := by decide +kernel
theorem wd_1452 : Cond.instanceMethod yX10_number ∈ TB := tb_7 (List.mem_of_getElem? (i := 12) rfl) rfl
theorem wp_56 : Cond.selects yX10_number.cls yX10_number yX10_number ∈ TB := tbS (List.mem_of_getElem? (i := 56) (by decide +kernel)) rfl
theorem mv_RX10_254 : Mv RX10 254 yX10_number cX10_number 3 (some .boolean) 2 := ⟨wd_1450, wd_1452, wp_56, wd_11, wd_1453, (yd_X10_number).1, (yd_X10_number).2.1, (yd_X10_number).2.2⟩
theorem wd_1483 : Cond.methodLink RX10 258 yX10_point ∈ TB := tb_7 (List.mem_of_getElem? (i := 43) rfl) rfl
theorem wd_1486 : Cond.code yX10_point cX10_point 1 (some .boolean) ∈ TB := tb_7 (List.mem_of_getElem? (i := 46) rfl) rfl
theorem yd_X10_point : yX10_point.cls ≠ "java/lang/invoke/MethodHandle" ∧ yX10_point.cls ≠ "java/lang/invoke/VarHandle" ∧ (parseMethodDescriptor yX10_point.desc).map (fun d => d.parameters.length) = some 0 := by decide +kernel
theorem wd_1485 : Cond.instanceMethod yX10_point ∈ TB := tb_7 (List.mem_of_getElem? (i := 45) rfl) rfl
theorem wp_62 : Cond.selects yX10_point.cls yX10_point yX10_point ∈ TB := tbS (List.mem_of_getElem? (i := 62) (by decide +kernel)) rfl
theorem mv_RX10_258 : Mv RX10 258 yX10_point cX10_point 1 (some .boolean) 0 := ⟨wd_1483, wd_1485, wp_62, wd_11, wd_1486, (yd_X10_point).1, (yd_X10_point).2.1, (yd_X10_point).2.2⟩
theorem wd_1442 : Cond.methodLink RX10 263 yX10_isWord ∈ TB := tb_7 (List.mem_of_getElem? (i := 2) rfl) rfl
theorem wd_1445 : Cond.code yX10_isWord cX10_isWord 3 (some .boolean) ∈ TB := tb_7 (List.mem_of_getElem? (i := 5) rfl) rfl
theorem yd_X10_isWord : yX10_isWord.cls ≠ "java/lang/invoke/MethodHandle" ∧ yX10_isWord.cls ≠ "java/lang/invoke/VarHandle" ∧ (parseMethodDescriptor yX10_isWord.desc).map (fun d => d.parameters.length) = some 1 := by decide +kernel
theorem wd_1444 : Cond.instanceMethod yX10_isWord ∈ TB := tb_7 (List.mem_of_getElem? (i := 4) rfl) rfl
theorem wp_54 : Cond.selects yX10_isWord.cls yX10_isWord yX10_isWord ∈ TB := tbS (List.mem_of_getElem? (i := 54) (by decide +kernel)) rfl
theorem mv_RX10_263 : Mv RX10 263 yX10_isWord cX10_isWord 3 (some .boolean) 1 := ⟨wd_1442, wd_1444, wp_54, wd_11, wd_1445, (yd_X10_isWord).1, (yd_X10_isWord).2.1, (yd_X10_isWord).2.2⟩
theorem wd_1479 : Cond.methodLink RX10 289 yX10_thingLine ∈ TB := tb_7 (List.mem_of_getElem? (i := 39) rfl) rfl
theorem wd_1482 : Cond.code yX10_thingLine cX10_thingLine 7 (some .boolean) ∈ TB := tb_7 (List.mem_of_getElem? (i := 42) rfl) rfl
theorem yd_X10_thingLine : yX10_thingLine.cls ≠ "java/lang/invoke/MethodHandle" ∧ yX10_thingLine.cls ≠ "java/lang/invoke/VarHandle" ∧ (parseMethodDescriptor yX10_thingLine.desc).map (fun d => d.parameters.length) = some 1 := by decide +kernel
theorem wd_1481 : Cond.instanceMethod yX10_thingLine ∈ TB := tb_7 (List.mem_of_getElem? (i := 41) rfl) rfl
theorem wp_61 : Cond.selects yX10_thingLine.cls yX10_thingLine yX10_thingLine ∈ TB := tbS (List.mem_of_getElem? (i := 61) (by decide +kernel)) rfl
theorem mv_RX10_289 : Mv RX10 289 yX10_thingLine cX10_thingLine 7 (some .boolean) 1 := ⟨wd_1479, wd_1481, wp_61, wd_11, wd_1482, (yd_X10_thingLine).1, (yd_X10_thingLine).2.1, (yd_X10_thingLine).2.2⟩
theorem wd_1488 : Cond.methodLink RX10 292 yX10_wallLine ∈ TB := tb_7 (List.mem_of_getElem? (i := 48) rfl) rfl
theorem wd_1491 : Cond.code yX10_wallLine cX10_wallLine 8 (some .boolean) ∈ TB := tb_7 (List.mem_of_getElem? (i := 51) rfl) rfl
theorem yd_X10_wallLine : yX10_wallLine.cls ≠ "java/lang/invoke/MethodHandle" ∧ yX10_wallLine.cls ≠ "java/lang/invoke/VarHandle" ∧ (parseMethodDescriptor yX10_wallLine.desc).map (fun d => d.parameters.length) = some 2 := by decide +kernel
theorem wd_1490 : Cond.instanceMethod yX10_wallLine ∈ TB := tb_7 (List.mem_of_getElem? (i := 50) rfl) rfl
theorem wp_63 : Cond.selects yX10_wallLine.cls yX10_wallLine yX10_wallLine ∈ TB := tbS (List.mem_of_getElem? (i := 63) (by decide +kernel)) rfl
theorem mv_RX10_292 : Mv RX10 292 yX10_wallLine cX10_wallLine 8 (some .boolean) 2 := ⟨wd_1488, wd_1490, wp_63, wd_11, wd_1491, (yd_X10_wallLine).1, (yd_X10_wallLine).2.1, (yd_X10_wallLine).2.2⟩
theorem wd_1492 : Cond.methodLink RX10 296 yX10_slope ∈ TB := tb_7 (List.mem_of_getElem? (i := 52) rfl) rfl
theorem wd_1495 : Cond.code yX10_slope cX10_slope 2 (some .boolean) ∈ TB := tb_7 (List.mem_of_getElem? (i := 55) rfl) rfl
theorem yd_X10_slope : yX10_slope.cls ≠ "java/lang/invoke/MethodHandle" ∧ yX10_slope.cls ≠ "java/lang/invoke/VarHandle" ∧ (parseMethodDescriptor yX10_slope.desc).map (fun d => d.parameters.length) = some 0 := by decide +kernel
theorem wd_1494 : Cond.instanceMethod yX10_slope ∈ TB := tb_7 (List.mem_of_getElem? (i := 54) rfl) rfl
theorem wp_64 : Cond.selects yX10_slope.cls yX10_slope yX10_slope ∈ TB := tbS (List.mem_of_getElem? (i := 64) (by decide +kernel)) rfl
theorem mv_RX10_296 : Mv RX10 296 yX10_slope cX10_slope 2 (some .boolean) 0 := ⟨wd_1492, wd_1494, wp_64, wd_11, wd_1495, (yd_X10_slope).1, (yd_X10_slope).2.1, (yd_X10_slope).2.2⟩
theorem wd_1498 : Cond.methodLink RX10 299 yX10_leaveLine ∈ TB := tb_7 (List.mem_of_getElem? (i := 58) rfl) rfl
theorem wd_1501 : Cond.code yX10_leaveLine cX10_leaveLine 4 (some .boolean) ∈ TB := tb_7 (List.mem_of_getElem? (i := 61) rfl) rfl
theorem yd_X10_leaveLine : yX10_leaveLine.cls ≠ "java/lang/invoke/MethodHandle" ∧ yX10_leaveLine.cls ≠ "java/lang/invoke/VarHandle" ∧ (parseMethodDescriptor yX10_leaveLine.desc).map (fun d => d.parameters.length) = some 1 := by decide +kernel
theorem wd_1500 : Cond.instanceMethod yX10_leaveLine ∈ TB := tb_7 (List.mem_of_getElem? (i := 60) rfl) rfl
theorem wp_65 : Cond.selects yX10_leaveLine.cls yX10_leaveLine yX10_leaveLine ∈ TB := tbS (List.mem_of_getElem? (i := 65) (by decide +kernel)) rfl
theorem mv_RX10_299 : Mv RX10 299 yX10_leaveLine cX10_leaveLine 4 (some .boolean) 1 := ⟨wd_1498, wd_1500, wp_65, wd_11, wd_1501, (yd_X10_leaveLine).1, (yd_X10_leaveLine).2.1, (yd_X10_leaveLine).2.2⟩
theorem wd_1502 : Cond.methodLink RX10 302 yX10_objectLine ∈ TB := tb_7 (List.mem_of_getElem? (i := 62) rfl) rfl
theorem wd_1505 : Cond.code yX10_objectLine cX10_objectLine 5 (some .boolean) ∈ TB := tb_7 (List.mem_of_getElem? (i := 65) rfl) rfl
theorem yd_X10_objectLine : yX10_objectLine.cls ≠ "java/lang/invoke/MethodHandle" ∧ yX10_objectLine.cls ≠ "java/lang/invoke/VarHandle" ∧ (parseMethodDescriptor yX10_objectLine.desc).map (fun d => d.parameters.length) = some 1 := by decide +kernel
theorem wd_1504 : Cond.instanceMethod yX10_objectLine ∈ TB := tb_7 (List.mem_of_getElem? (i := 64) rfl) rfl
theorem wp_66 : Cond.selects yX10_objectLine.cls yX10_objectLine yX10_objectLine ∈ TB := tbS (List.mem_of_getElem? (i := 66) (by decide +kernel)) rfl
theorem mv_RX10_302 : Mv RX10 302 yX10_objectLine cX10_objectLine 5 (some .boolean) 1 := ⟨wd_1502, wd_1504, wp_66, wd_11, wd_1505, (yd_X10_objectLine).1, (yd_X10_objectLine).2.1, (yd_X10_objectLine).2.2⟩
theorem wd_1506 : Cond.methodLink RX10 305 yX10_pairLine ∈ TB := tb_7 (List.mem_of_getElem? (i := 66) rfl) rfl
theorem wd_1509 : Cond.code yX10_pairLine cX10_pairLine 3 (some .boolean) ∈ TB := tb_7 (List.mem_of_getElem? (i := 69) rfl) rfl
theorem yd_X10_pairLine : yX10_pairLine.cls ≠ "java/lang/invoke/MethodHandle" ∧ yX10_pairLine.cls ≠ "java/lang/invoke/VarHandle" ∧ (parseMethodDescriptor yX10_pairLine.desc).map (fun d => d.parameters.length) = some 2 := by decide +kernel
theorem wd_1508 : Cond.instanceMethod yX10_pairLine ∈ TB := tb_7 (List.mem_of_getElem? (i := 68) rfl) rfl
theorem wp_67 : Cond.selects yX10_pairLine.cls yX10_pairLine yX10_pairLine ∈ TB := tbS (List.mem_of_getElem? (i := 67) (by decide +kernel)) rfl
theorem mv_RX10_305 : Mv RX10 305 yX10_pairLine cX10_pairLine 3 (some .boolean) 2 := ⟨wd_1506, wd_1508, wp_67, wd_11, wd_1509, (yd_X10_pairLine).1, (yd_X10_pairLine).2.1, (yd_X10_pairLine).2.2⟩
theorem wd_1462 : Cond.methodLink RX10 309 yX10_passes ∈ TB := tb_7 (List.mem_of_getElem? (i := 22) rfl) rfl
theorem wd_1465 : Cond.code yX10_passes cX10_passes 1 (some .boolean) ∈ TB := tb_7 (List.mem_of_getElem? (i := 25) rfl) rfl
theorem yd_X10_passes : yX10_passes.cls ≠ "java/lang/invoke/MethodHandle" ∧ yX10_passes.cls ≠ "java/lang/invoke/VarHandle" ∧ (parseMethodDescriptor yX10_passes.desc).map (fun d => d.parameters.length) = some 0 := by decide +kernel
theorem wd_1464 : Cond.instanceMethod yX10_passes ∈ TB := tb_7 (List.mem_of_getElem? (i := 24) rfl) rfl
theorem wp_59 : Cond.selects yX10_passes.cls yX10_passes yX10_passes ∈ TB := tbS (List.mem_of_getElem? (i := 59) (by decide +kernel)) rfl
theorem mv_RX10_309 : Mv RX10 309 yX10_passes cX10_passes 1 (some .boolean) 0 := ⟨wd_1462, wd_1464, wp_59, wd_11, wd_1465, (yd_X10_passes).1, (yd_X10_passes).2.1, (yd_X10_passes).2.2⟩
theorem wd_1458 : Cond.methodLink RX10 314 yX10_sane ∈ TB := tb_7 (List.mem_of_getElem? (i := 18) rfl) rfl
theorem wd_1461 : Cond.code yX10_sane cX10_sane 3 (some .int) ∈ TB := tb_7 (List.mem_of_getElem? (i := 21) rfl) rfl
theorem yd_X10_sane : yX10_sane.cls ≠ "java/lang/invoke/MethodHandle" ∧ yX10_sane.cls ≠ "java/lang/invoke/VarHandle" ∧ (parseMethodDescriptor yX10_sane.desc).map (fun d => d.parameters.length) = some 2 := by decide +kernel
theorem wd_1460 : Cond.instanceMethod yX10_sane ∈ TB := tb_7 (List.mem_of_getElem? (i := 20) rfl) rfl
theorem wp_58 : Cond.selects yX10_sane.cls yX10_sane yX10_sane ∈ TB := tbS (List.mem_of_getElem? (i := 58) (by decide +kernel)) rfl
theorem mv_RX10_314 : Mv RX10 314 yX10_sane cX10_sane 3 (some .int) 2 := ⟨wd_1458, wd_1460, wp_58, wd_11, wd_1461, (yd_X10_sane).1, (yd_X10_sane).2.1, (yd_X10_sane).2.2⟩
theorem wd_1437 : Cond.methodLink RX10 317 yX10_sizeLine ∈ TB := tb_6 (List.mem_of_getElem? (i := 237) rfl) rfl
theorem wd_1440 : Cond.code yX10_sizeLine cX10_sizeLine 1 (some .boolean) ∈ TB := tb_7 (List.mem_of_getElem? (i := 0) rfl) rfl
theorem yd_X10_sizeLine : yX10_sizeLine.cls ≠ "java/lang/invoke/MethodHandle" ∧ yX10_sizeLine.cls ≠ "java/lang/invoke/VarHandle" ∧ (parseMethodDescriptor yX10_sizeLine.desc).map (fun d => d.parameters.length) = some 0 := by decide +kernel
theorem wd_1439 : Cond.instanceMethod yX10_sizeLine ∈ TB := tb_6 (List.mem_of_getElem? (i := 239) rfl) rfl
theorem wp_53 : Cond.selects yX10_sizeLine.cls yX10_sizeLine yX10_sizeLine ∈ TB := tbS (List.mem_of_getElem? (i := 53) (by decide +kernel)) rfl
theorem mv_RX10_317 : Mv RX10 317 yX10_sizeLine cX10_sizeLine 1 (some .boolean) 0 := ⟨wd_1437, wd_1439, wp_53, wd_11, wd_1440, (yd_X10_sizeLine).1, (yd_X10_sizeLine).2.1, (yd_X10_sizeLine).2.2⟩
theorem wd_1466 : Cond.methodLink RX10 320 yX10_townLine ∈ TB := tb_7 (List.mem_of_getElem? (i := 26) rfl) rfl
theorem wd_1469 : Cond.code yX10_townLine cX10_townLine 6 (some .boolean) ∈ TB := tb_7 (List.mem_of_getElem? (i := 29) rfl) rfl
theorem yd_X10_townLine : yX10_townLine.cls ≠ "java/lang/invoke/MethodHandle" ∧ yX10_townLine.cls ≠ "java/lang/invoke/VarHandle" ∧ (parseMethodDescriptor yX10_townLine.desc).map (fun d => d.parameters.length) = some 0 := by decide +kernel
theorem wd_1468 : Cond.instanceMethod yX10_townLine ∈ TB := tb_7 (List.mem_of_getElem? (i := 28) rfl) rfl
theorem wp_60 : Cond.selects yX10_townLine.cls yX10_townLine yX10_townLine ∈ TB := tbS (List.mem_of_getElem? (i := 60) (by decide +kernel)) rfl
theorem mv_RX10_320 : Mv RX10 320 yX10_townLine cX10_townLine 6 (some .boolean) 0 := ⟨wd_1466, wd_1468, wp_60, wd_11, wd_1469, (yd_X10_townLine).1, (yd_X10_townLine).2.1, (yd_X10_townLine).2.2⟩
theorem wd_1510 : Cond.methodLink RX10 323 yX10_isGood ∈ TB := tb_7 (List.mem_of_getElem? (i := 70) rfl) rfl
theorem wd_1513 : Cond.code yX10_isGood cX10_isGood 2 (some .boolean) ∈ TB := tb_7 (List.mem_of_getElem? (i := 73) rfl) rfl
theorem yd_X10_isGood : yX10_isGood.cls ≠ "java/lang/invoke/MethodHandle" ∧ yX10_isGood.cls ≠ "java/lang/invoke/VarHandle" ∧ (parseMethodDescriptor yX10_isGood.desc).map (fun d => d.parameters.length) = some 1 := by decide +kernel
theorem wd_1512 : Cond.instanceMethod yX10_isGood ∈ TB := tb_7 (List.mem_of_getElem? (i := 72) rfl) rfl
theorem wp_68 : Cond.selects yX10_isGood.cls yX10_isGood yX10_isGood ∈ TB := tbS (List.mem_of_getElem? (i := 68) (by decide +kernel)) rfl
theorem mv_RX10_323 : Mv RX10 323 yX10_isGood cX10_isGood 2 (some .boolean) 1 := ⟨wd_1510, wd_1512, wp_68, wd_11, wd_1513, (yd_X10_isGood).1, (yd_X10_isGood).2.1, (yd_X10_isGood).2.2⟩
theorem wd_1417 : Cond.methodLink RX10 327 yX10_takeTape ∈ TB := tb_6 (List.mem_of_getElem? (i := 217) rfl) rfl
theorem wd_1420 : Cond.code yX10_takeTape cX10_takeTape 1 none ∈ TB := tb_6 (List.mem_of_getElem? (i := 220) rfl) rfl
theorem yd_X10_takeTape : yX10_takeTape.cls ≠ "java/lang/invoke/MethodHandle" ∧ yX10_takeTape.cls ≠ "java/lang/invoke/VarHandle" ∧ (parseMethodDescriptor yX10_takeTape.desc).map (fun d => d.parameters.length) = some 0 := by decide +kernel
theorem wd_1419 : Cond.instanceMethod yX10_takeTape ∈ TB := tb_6 (List.mem_of_getElem? (i := 219) rfl) rfl
theorem wp_48 : Cond.selects yX10_takeTape.cls yX10_takeTape yX10_takeTape ∈ TB := tbS (List.mem_of_getElem? (i := 48) (by decide +kernel)) rfl
theorem mv_RX10_327 : Mv RX10 327 yX10_takeTape cX10_takeTape 1 none 0 := ⟨wd_1417, wd_1419, wp_48, wd_11, wd_1420, (yd_X10_takeTape).1, (yd_X10_takeTape).2.1, (yd_X10_takeTape).2.2⟩
theorem wd_1425 : Cond.methodLink RX10 330 yX10_readTown ∈ TB := tb_6 (List.mem_of_getElem? (i := 225) rfl) rfl
theorem wd_1428 : Cond.code yX10_readTown cX10_readTown 3 (some .boolean) ∈ TB := tb_6 (List.mem_of_getElem? (i := 228) rfl) rfl
theorem yd_X10_readTown : yX10_readTown.cls ≠ "java/lang/invoke/MethodHandle" ∧ yX10_readTown.cls ≠ "java/lang/invoke/VarHandle" ∧ (parseMethodDescriptor yX10_readTown.desc).map (fun d => d.parameters.length) = some 0 := by decide +kernel
theorem wd_1427 : Cond.instanceMethod yX10_readTown ∈ TB := tb_6 (List.mem_of_getElem? (i := 227) rfl) rfl
theorem wp_50 : Cond.selects yX10_readTown.cls yX10_readTown yX10_readTown ∈ TB := tbS (List.mem_of_getElem? (i := 50) (by decide +kernel)) rfl
theorem mv_RX10_330 : Mv RX10 330 yX10_readTown cX10_readTown 3 (some .boolean) 0 := ⟨wd_1425, wd_1427, wp_50, wd_11, wd_1428, (yd_X10_readTown).1, (yd_X10_readTown).2.1, (yd_X10_readTown).2.2⟩
theorem wd_1529 : Cond.methodLink RX10 342 yX10_ruleLine ∈ TB := tb_7 (List.mem_of_getElem? (i := 89) rfl) rfl
theorem wd_1532 : Cond.code yX10_ruleLine cX10_ruleLine 4 (some .boolean) ∈ TB := tb_7 (List.mem_of_getElem? (i := 92) rfl) rfl
theorem yd_X10_ruleLine : yX10_ruleLine.cls ≠ "java/lang/invoke/MethodHandle" ∧ yX10_ruleLine.cls ≠ "java/lang/invoke/VarHandle" ∧ (parseMethodDescriptor yX10_ruleLine.desc).map (fun d => d.parameters.length) = some 2 := by decide +kernel
theorem wd_1531 : Cond.instanceMethod yX10_ruleLine ∈ TB := tb_7 (List.mem_of_getElem? (i := 91) rfl) rfl
theorem wp_71 : Cond.selects yX10_ruleLine.cls yX10_ruleLine yX10_ruleLine ∈ TB := tbS (List.mem_of_getElem? (i := 71) (by decide +kernel)) rfl
theorem mv_RX10_342 : Mv RX10 342 yX10_ruleLine cX10_ruleLine 4 (some .boolean) 2 := ⟨wd_1529, wd_1531, wp_71, wd_11, wd_1532, (yd_X10_ruleLine).1, (yd_X10_ruleLine).2.1, (yd_X10_ruleLine).2.2⟩
theorem wd_1518 : Cond.methodLink RX10 360 yX10_isLaw ∈ TB := tb_7 (List.mem_of_getElem? (i := 78) rfl) rfl
theorem wd_1521 : Cond.code yX10_isLaw cX10_isLaw 2 (some .boolean) ∈ TB := tb_7 (List.mem_of_getElem? (i := 81) rfl) rfl
theorem yd_X10_isLaw : yX10_isLaw.cls ≠ "java/lang/invoke/MethodHandle" ∧ yX10_isLaw.cls ≠ "java/lang/invoke/VarHandle" ∧ (parseMethodDescriptor yX10_isLaw.desc).map (fun d => d.parameters.length) = some 1 := by decide +kernel
theorem wd_1520 : Cond.instanceMethod yX10_isLaw ∈ TB := tb_7 (List.mem_of_getElem? (i := 80) rfl) rfl
theorem wp_69 : Cond.selects yX10_isLaw.cls yX10_isLaw yX10_isLaw ∈ TB := tbS (List.mem_of_getElem? (i := 69) (by decide +kernel)) rfl
theorem mv_RX10_360 : Mv RX10 360 yX10_isLaw cX10_isLaw 2 (some .boolean) 1 := ⟨wd_1518, wd_1520, wp_69, wd_11, wd_1521, (yd_X10_isLaw).1, (yd_X10_isLaw).2.1, (yd_X10_isLaw).2.2⟩
theorem wd_1522 : Cond.methodLink RX10 363 yX10_lawLine ∈ TB := tb_7 (List.mem_of_getElem? (i := 82) rfl) rfl
theorem wd_1525 : Cond.code yX10_lawLine cX10_lawLine 3 (some .boolean) ∈ TB := tb_7 (List.mem_of_getElem? (i := 85) rfl) rfl
theorem yd_X10_lawLine : yX10_lawLine.cls ≠ "java/lang/invoke/MethodHandle" ∧ yX10_lawLine.cls ≠ "java/lang/invoke/VarHandle" ∧ (parseMethodDescriptor yX10_lawLine.desc).map (fun d => d.parameters.length) = some 0 := by decide +kernel
theorem wd_1524 : Cond.instanceMethod yX10_lawLine ∈ TB := tb_7 (List.mem_of_getElem? (i := 84) rfl) rfl
theorem wp_70 : Cond.selects yX10_lawLine.cls yX10_lawLine yX10_lawLine ∈ TB := tbS (List.mem_of_getElem? (i := 70) (by decide +kernel)) rfl
theorem mv_RX10_363 : Mv RX10 363 yX10_lawLine cX10_lawLine 3 (some .boolean) 0 := ⟨wd_1522, wd_1524, wp_70, wd_11, wd_1525, (yd_X10_lawLine).1, (yd_X10_lawLine).2.1, (yd_X10_lawLine).2.2⟩
theorem wd_1552 : Cond.methodLink RX10 366 yX10_isThing ∈ TB := tb_7 (List.mem_of_getElem? (i := 112) rfl) rfl
theorem wd_1555 : Cond.code yX10_isThing cX10_isThing 3 (some .boolean) ∈ TB := tb_7 (List.mem_of_getElem? (i := 115) rfl) rfl
theorem yd_X10_isThing : yX10_isThing.cls ≠ "java/lang/invoke/MethodHandle" ∧ yX10_isThing.cls ≠ "java/lang/invoke/VarHandle" ∧ (parseMethodDescriptor yX10_isThing.desc).map (fun d => d.parameters.length) = some 2 := by decide +kernel
theorem wd_1554 : Cond.instanceMethod yX10_isThing ∈ TB := tb_7 (List.mem_of_getElem? (i := 114) rfl) rfl
theorem wp_73 : Cond.selects yX10_isThing.cls yX10_isThing yX10_isThing ∈ TB := tbS (List.mem_of_getElem? (i := 73) (by decide +kernel)) rfl
theorem mv_RX10_366 : Mv RX10 366 yX10_isThing cX10_isThing 3 (some .boolean) 2 := ⟨wd_1552, wd_1554, wp_73, wd_11, wd_1555, (yd_X10_isThing).1, (yd_X10_isThing).2.1, (yd_X10_isThing).2.2⟩
theorem wd_1564 : Cond.methodLink RX10 369 yX10_isPoint ∈ TB := tb_7 (List.mem_of_getElem? (i := 124) rfl) rfl
theorem wd_1567 : Cond.code yX10_isPoint cX10_isPoint 4 (some .boolean) ∈ TB := tb_7 (List.mem_of_getElem? (i := 127) rfl) rfl
theorem yd_X10_isPoint : yX10_isPoint.cls ≠ "java/lang/invoke/MethodHandle" ∧ yX10_isPoint.cls ≠ "java/lang/invoke/VarHandle" ∧ (parseMethodDescriptor yX10_isPoint.desc).map (fun d => d.parameters.length) = some 3 := by decide +kernel
theorem wd_1566 : Cond.instanceMethod yX10_isPoint ∈ TB := tb_7 (List.mem_of_getElem? (i := 126) rfl) rfl
theorem wp_74 : Cond.selects yX10_isPoint.cls yX10_isPoint yX10_isPoint ∈ TB := tbS (List.mem_of_getElem? (i := 74) (by decide +kernel)) rfl
theorem mv_RX10_369 : Mv RX10 369 yX10_isPoint cX10_isPoint 4 (some .boolean) 3 := ⟨wd_1564, wd_1566, wp_74, wd_11, wd_1567, (yd_X10_isPoint).1, (yd_X10_isPoint).2.1, (yd_X10_isPoint).2.2⟩
theorem wd_1568 : Cond.methodLink RX10 372 yX10_isDay ∈ TB := tb_7 (List.mem_of_getElem? (i := 128) rfl) rfl
theorem wd_1570 : Cond.code yX10_isDay cX10_isDay 1 (some .boolean) ∈ TB := tb_7 (List.mem_of_getElem? (i := 130) rfl) rfl
theorem yd_X10_isDay : yX10_isDay.cls ≠ "java/lang/invoke/MethodHandle" ∧ yX10_isDay.cls ≠ "java/lang/invoke/VarHandle" ∧ (parseMethodDescriptor yX10_isDay.desc).map (fun d => d.parameters.length) = some 1 := by decide +kernel
theorem wd_1569 : Cond.static yX10_isDay ∈ TB := tb_7 (List.mem_of_getElem? (i := 129) rfl) rfl
theorem mv_RX10_372 : Ms RX10 372 yX10_isDay cX10_isDay 1 (some .boolean) 1 := ⟨wd_1568, wd_1569, wd_11, wd_1570, (yd_X10_isDay).1, (yd_X10_isDay).2.1, (yd_X10_isDay).2.2⟩
theorem wd_1579 : Cond.methodLink RX10 393 yX10_bring ∈ TB := tb_7 (List.mem_of_getElem? (i := 139) rfl) rfl
theorem wd_1582 : Cond.code yX10_bring cX10_bring 6 none ∈ TB := tb_7 (List.mem_of_getElem? (i := 142) rfl) rfl
theorem yd_X10_bring : yX10_bring.cls ≠ "java/lang/invoke/MethodHandle" ∧ yX10_bring.cls ≠ "java/lang/invoke/VarHandle" ∧ (parseMethodDescriptor yX10_bring.desc).map (fun d => d.parameters.length) = some 2 := by decide +kernel
theorem wd_1581 : Cond.instanceMethod yX10_bring ∈ TB := tb_7 (List.mem_of_getElem? (i := 141) rfl) rfl
theorem wp_75 : Cond.selects yX10_bring.cls yX10_bring yX10_bring ∈ TB := tbS (List.mem_of_getElem? (i := 75) (by decide +kernel)) rfl
theorem mv_RX10_393 : Mv RX10 393 yX10_bring cX10_bring 6 none 2 := ⟨wd_1579, wd_1581, wp_75, wd_11, wd_1582, (yd_X10_bring).1, (yd_X10_bring).2.1, (yd_X10_bring).2.2⟩
theorem wd_1583 : Cond.methodLink RX10 396 yX10_apartBy ∈ TB := tb_7 (List.mem_of_getElem? (i := 143) rfl) rfl
theorem wd_1586 : Cond.code yX10_apartBy cX10_apartBy 3 (some .int) ∈ TB := tb_7 (List.mem_of_getElem? (i := 146) rfl) rfl
theorem yd_X10_apartBy : yX10_apartBy.cls ≠ "java/lang/invoke/MethodHandle" ∧ yX10_apartBy.cls ≠ "java/lang/invoke/VarHandle" ∧ (parseMethodDescriptor yX10_apartBy.desc).map (fun d => d.parameters.length) = some 2 := by decide +kernel
theorem wd_1585 : Cond.instanceMethod yX10_apartBy ∈ TB := tb_7 (List.mem_of_getElem? (i := 145) rfl) rfl
theorem wp_76 : Cond.selects yX10_apartBy.cls yX10_apartBy yX10_apartBy ∈ TB := tbS (List.mem_of_getElem? (i := 76) (by decide +kernel)) rfl
theorem mv_RX10_396 : Mv RX10 396 yX10_apartBy cX10_apartBy 3 (some .int) 2 := ⟨wd_1583, wd_1585, wp_76, wd_11, wd_1586, (yd_X10_apartBy).1, (yd_X10_apartBy).2.1, (yd_X10_apartBy).2.2⟩
theorem wd_1599 : Cond.methodLink RX10 399 yX10_side ∈ TB := tb_7 (List.mem_of_getElem? (i := 159) rfl) rfl
theorem wd_1601 : Cond.code yX10_side cX10_side 7 (some .int) ∈ TB := tb_7 (List.mem_of_getElem? (i := 161) rfl) rfl
theorem yd_X10_side : yX10_side.cls ≠ "java/lang/invoke/MethodHandle" ∧ yX10_side.cls ≠ "java/lang/invoke/VarHandle" ∧ (parseMethodDescriptor yX10_side.desc).map (fun d => d.parameters.length) = some 6 := by decide +kernel
theorem wd_1600 : Cond.static yX10_side ∈ TB := tb_7 (List.mem_of_getElem? (i := 160) rfl) rfl
theorem mv_RX10_399 : Ms RX10 399 yX10_side cX10_side 7 (some .int) 6 := ⟨wd_1599, wd_1600, wd_11, wd_1601, (yd_X10_side).1, (yd_X10_side).2.1, (yd_X10_side).2.2⟩
theorem wd_1602 : Cond.methodLink RX10 403 yX10_isOn ∈ TB := tb_7 (List.mem_of_getElem? (i := 162) rfl) rfl
theorem wd_1604 : Cond.code yX10_isOn cX10_isOn 8 (some .boolean) ∈ TB := tb_7 (List.mem_of_getElem? (i := 164) rfl) rfl
theorem yd_X10_isOn : yX10_isOn.cls ≠ "java/lang/invoke/MethodHandle" ∧ yX10_isOn.cls ≠ "java/lang/invoke/VarHandle" ∧ (parseMethodDescriptor yX10_isOn.desc).map (fun d => d.parameters.length) = some 6 := by decide +kernel
theorem wd_1603 : Cond.static yX10_isOn ∈ TB := tb_7 (List.mem_of_getElem? (i := 163) rfl) rfl
theorem mv_RX10_403 : Ms RX10 403 yX10_isOn cX10_isOn 8 (some .boolean) 6 := ⟨wd_1602, wd_1603, wd_11, wd_1604, (yd_X10_isOn).1, (yd_X10_isOn).2.1, (yd_X10_isOn).2.2⟩
theorem wd_1595 : Cond.methodLink RX10 407 yX10_crosses ∈ TB := tb_7 (List.mem_of_getElem? (i := 155) rfl) rfl
theorem wd_1598 : Cond.code yX10_crosses cX10_crosses 8 (some .boolean) ∈ TB := tb_7 (List.mem_of_getElem? (i := 158) rfl) rfl
theorem yd_X10_crosses : yX10_crosses.cls ≠ "java/lang/invoke/MethodHandle" ∧ yX10_crosses.cls ≠ "java/lang/invoke/VarHandle" ∧ (parseMethodDescriptor yX10_crosses.desc).map (fun d => d.parameters.length) = some 3 := by decide +kernel
theorem wd_1597 : Cond.instanceMethod yX10_crosses ∈ TB := tb_7 (List.mem_of_getElem? (i := 157) rfl) rfl
theorem wp_78 : Cond.selects yX10_crosses.cls yX10_crosses yX10_crosses ∈ TB := tbS (List.mem_of_getElem? (i := 78) (by decide +kernel)) rfl
theorem mv_RX10_407 : Mv RX10 407 yX10_crosses cX10_crosses 8 (some .boolean) 3 := ⟨wd_1595, wd_1597, wp_78, wd_11, wd_1598, (yd_X10_crosses).1, (yd_X10_crosses).2.1, (yd_X10_crosses).2.2⟩
theorem wd_1591 : Cond.methodLink RX10 410 yX10_wallsBetween ∈ TB := tb_7 (List.mem_of_getElem? (i := 151) rfl) rfl
theorem wd_1594 : Cond.code yX10_wallsBetween cX10_wallsBetween 6 (some .int) ∈ TB := tb_7 (List.mem_of_getElem? (i := 154) rfl) rfl
theorem yd_X10_wallsBetween : yX10_wallsBetween.cls ≠ "java/lang/invoke/MethodHandle" ∧ yX10_wallsBetween.cls ≠ "java/lang/invoke/VarHandle" ∧ (parseMethodDescriptor yX10_wallsBetween.desc).map (fun d => d.parameters.length) = some 2 := by decide +kernel
theorem wd_1593 : Cond.instanceMethod yX10_wallsBetween ∈ TB := tb_7 (List.mem_of_getElem? (i := 153) rfl) rfl
theorem wp_77 : Cond.selects yX10_wallsBetween.cls yX10_wallsBetween yX10_wallsBetween ∈ TB := tbS (List.mem_of_getElem? (i := 77) (by decide +kernel)) rfl
theorem mv_RX10_410 : Mv RX10 410 yX10_wallsBetween cX10_wallsBetween 6 (some .int) 2 := ⟨wd_1591, wd_1593, wp_77, wd_11, wd_1594, (yd_X10_wallsBetween).1, (yd_X10_wallsBetween).2.1, (yd_X10_wallsBetween).2.2⟩
theorem wd_1609 : Cond.methodLink RX10 413 yX10_grownBy ∈ TB := tb_7 (List.mem_of_getElem? (i := 169) rfl) rfl
theorem wd_1612 : Cond.code yX10_grownBy cX10_grownBy 4 (some .int) ∈ TB := tb_7 (List.mem_of_getElem? (i := 172) rfl) rfl
theorem yd_X10_grownBy : yX10_grownBy.cls ≠ "java/lang/invoke/MethodHandle" ∧ yX10_grownBy.cls ≠ "java/lang/invoke/VarHandle" ∧ (parseMethodDescriptor yX10_grownBy.desc).map (fun d => d.parameters.length) = some 1 := by decide +kernel
theorem wd_1611 : Cond.instanceMethod yX10_grownBy ∈ TB := tb_7 (List.mem_of_getElem? (i := 171) rfl) rfl
theorem wp_79 : Cond.selects yX10_grownBy.cls yX10_grownBy yX10_grownBy ∈ TB := tbS (List.mem_of_getElem? (i := 79) (by decide +kernel)) rfl
theorem mv_RX10_413 : Mv RX10 413 yX10_grownBy cX10_grownBy 4 (some .int) 1 := ⟨wd_1609, wd_1611, wp_79, wd_11, wd_1612, (yd_X10_grownBy).1, (yd_X10_grownBy).2.1, (yd_X10_grownBy).2.2⟩
theorem wd_1645 : Cond.methodLink RX10 417 yX10_towardX ∈ TB := tb_7 (List.mem_of_getElem? (i := 205) rfl) rfl
theorem wd_1647 : Cond.code yX10_towardX cX10_towardX 1 (some .int) ∈ TB := tb_7 (List.mem_of_getElem? (i := 207) rfl) rfl
theorem yd_X10_towardX : yX10_towardX.cls ≠ "java/lang/invoke/MethodHandle" ∧ yX10_towardX.cls ≠ "java/lang/invoke/VarHandle" ∧ (parseMethodDescriptor yX10_towardX.desc).map (fun d => d.parameters.length) = some 1 := by decide +kernel
theorem wd_1646 : Cond.static yX10_towardX ∈ TB := tb_7 (List.mem_of_getElem? (i := 206) rfl) rfl
theorem mv_RX10_417 : Ms RX10 417 yX10_towardX cX10_towardX 1 (some .int) 1 := ⟨wd_1645, wd_1646, wd_11, wd_1647, (yd_X10_towardX).1, (yd_X10_towardX).2.1, (yd_X10_towardX).2.2⟩
theorem wd_1648 : Cond.methodLink RX10 420 yX10_towardY ∈ TB := tb_7 (List.mem_of_getElem? (i := 208) rfl) rfl
theorem wd_1650 : Cond.code yX10_towardY cX10_towardY 1 (some .int) ∈ TB := tb_7 (List.mem_of_getElem? (i := 210) rfl) rfl
theorem yd_X10_towardY : yX10_towardY.cls ≠ "java/lang/invoke/MethodHandle" ∧ yX10_towardY.cls ≠ "java/lang/invoke/VarHandle" ∧ (parseMethodDescriptor yX10_towardY.desc).map (fun d => d.parameters.length) = some 1 := by decide +kernel
theorem wd_1649 : Cond.static yX10_towardY ∈ TB := tb_7 (List.mem_of_getElem? (i := 209) rfl) rfl
theorem mv_RX10_420 : Ms RX10 420 yX10_towardY cX10_towardY 1 (some .int) 1 := ⟨wd_1648, wd_1649, wd_11, wd_1650, (yd_X10_towardY).1, (yd_X10_towardY).2.1, (yd_X10_towardY).2.2⟩
theorem wd_1641 : Cond.methodLink RX10 423 yX10_smellsIn ∈ TB := tb_7 (List.mem_of_getElem? (i := 201) rfl) rfl
theorem wd_1644 : Cond.code yX10_smellsIn cX10_smellsIn 9 (some .boolean) ∈ TB := tb_7 (List.mem_of_getElem? (i := 204) rfl) rfl
theorem yd_X10_smellsIn : yX10_smellsIn.cls ≠ "java/lang/invoke/MethodHandle" ∧ yX10_smellsIn.cls ≠ "java/lang/invoke/VarHandle" ∧ (parseMethodDescriptor yX10_smellsIn.desc).map (fun d => d.parameters.length) = some 3 := by decide +kernel
theorem wd_1643 : Cond.instanceMethod yX10_smellsIn ∈ TB := tb_7 (List.mem_of_getElem? (i := 203) rfl) rfl
theorem wp_86 : Cond.selects yX10_smellsIn.cls yX10_smellsIn yX10_smellsIn ∈ TB := tbS (List.mem_of_getElem? (i := 86) (by decide +kernel)) rfl
theorem mv_RX10_423 : Mv RX10 423 yX10_smellsIn cX10_smellsIn 9 (some .boolean) 3 := ⟨wd_1641, wd_1643, wp_86, wd_11, wd_1644, (yd_X10_smellsIn).1, (yd_X10_smellsIn).2.1, (yd_X10_smellsIn).2.2⟩
theorem wd_1633 : Cond.methodLink RX10 426 yX10_farBy ∈ TB := tb_7 (List.mem_of_getElem? (i := 193) rfl) rfl
theorem wd_1636 : Cond.code yX10_farBy cX10_farBy 4 (some .int) ∈ TB := tb_7 (List.mem_of_getElem? (i := 196) rfl) rfl
theorem yd_X10_farBy : yX10_farBy.cls ≠ "java/lang/invoke/MethodHandle" ∧ yX10_farBy.cls ≠ "java/lang/invoke/VarHandle" ∧ (parseMethodDescriptor yX10_farBy.desc).map (fun d => d.parameters.length) = some 3 := by decide +kernel
theorem wd_1635 : Cond.instanceMethod yX10_farBy ∈ TB := tb_7 (List.mem_of_getElem? (i := 195) rfl) rfl
theorem wp_84 : Cond.selects yX10_farBy.cls yX10_farBy yX10_farBy ∈ TB := tbS (List.mem_of_getElem? (i := 84) (by decide +kernel)) rfl
theorem mv_RX10_426 : Mv RX10 426 yX10_farBy cX10_farBy 4 (some .int) 3 := ⟨wd_1633, wd_1635, wp_84, wd_11, wd_1636, (yd_X10_farBy).1, (yd_X10_farBy).2.1, (yd_X10_farBy).2.2⟩
theorem wd_1637 : Cond.methodLink RX10 430 yX10_smellHours ∈ TB := tb_7 (List.mem_of_getElem? (i := 197) rfl) rfl
theorem wd_1640 : Cond.code yX10_smellHours cX10_smellHours 5 (some .int) ∈ TB := tb_7 (List.mem_of_getElem? (i := 200) rfl) rfl
theorem yd_X10_smellHours : yX10_smellHours.cls ≠ "java/lang/invoke/MethodHandle" ∧ yX10_smellHours.cls ≠ "java/lang/invoke/VarHandle" ∧ (parseMethodDescriptor yX10_smellHours.desc).map (fun d => d.parameters.length) = some 2 := by decide +kernel
theorem wd_1639 : Cond.instanceMethod yX10_smellHours ∈ TB := tb_7 (List.mem_of_getElem? (i := 199) rfl) rfl
theorem wp_85 : Cond.selects yX10_smellHours.cls yX10_smellHours yX10_smellHours ∈ TB := tbS (List.mem_of_getElem? (i := 85) (by decide +kernel)) rfl
theorem mv_RX10_430 : Mv RX10 430 yX10_smellHours cX10_smellHours 5 (some .int) 2 := ⟨wd_1637, wd_1639, wp_85, wd_11, wd_1640, (yd_X10_smellHours).1, (yd_X10_smellHours).2.1, (yd_X10_smellHours).2.2⟩
theorem wd_1651 : Cond.methodLink RX10 433 yX10_height ∈ TB := tb_7 (List.mem_of_getElem? (i := 211) rfl) rfl
theorem wd_1654 : Cond.code yX10_height cX10_height 2 (some .int) ∈ TB := tb_7 (List.mem_of_getElem? (i := 214) rfl) rfl
theorem yd_X10_height : yX10_height.cls ≠ "java/lang/invoke/MethodHandle" ∧ yX10_height.cls ≠ "java/lang/invoke/VarHandle" ∧ (parseMethodDescriptor yX10_height.desc).map (fun d => d.parameters.length) = some 1 := by decide +kernel
theorem wd_1653 : Cond.instanceMethod yX10_height ∈ TB := tb_7 (List.mem_of_getElem? (i := 213) rfl) rfl
theorem wp_87 : Cond.selects yX10_height.cls yX10_height yX10_height ∈ TB := tbS (List.mem_of_getElem? (i := 87) (by decide +kernel)) rfl
theorem mv_RX10_433 : Mv RX10 433 yX10_height cX10_height 2 (some .int) 1 := ⟨wd_1651, wd_1653, wp_87, wd_11, wd_1654, (yd_X10_height).1, (yd_X10_height).2.1, (yd_X10_height).2.2⟩
theorem wd_1655 : Cond.methodLink RX10 436 yX10_looksAt ∈ TB := tb_7 (List.mem_of_getElem? (i := 215) rfl) rfl
theorem wd_1658 : Cond.code yX10_looksAt cX10_looksAt 5 (some .boolean) ∈ TB := tb_7 (List.mem_of_getElem? (i := 218) rfl) rfl
theorem yd_X10_looksAt : yX10_looksAt.cls ≠ "java/lang/invoke/MethodHandle" ∧ yX10_looksAt.cls ≠ "java/lang/invoke/VarHandle" ∧ (parseMethodDescriptor yX10_looksAt.desc).map (fun d => d.parameters.length) = some 2 := by decide +kernel
theorem wd_1657 : Cond.instanceMethod yX10_looksAt ∈ TB := tb_7 (List.mem_of_getElem? (i := 217) rfl) rfl
theorem wp_88 : Cond.selects yX10_looksAt.cls yX10_looksAt yX10_looksAt ∈ TB := tbS (List.mem_of_getElem? (i := 88) (by decide +kernel)) rfl
theorem mv_RX10_436 : Mv RX10 436 yX10_looksAt cX10_looksAt 5 (some .boolean) 2 := ⟨wd_1655, wd_1657, wp_88, wd_11, wd_1658, (yd_X10_looksAt).1, (yd_X10_looksAt).2.1, (yd_X10_looksAt).2.2⟩
theorem wd_1629 : Cond.methodLink RX10 439 yX10_barsBy ∈ TB := tb_7 (List.mem_of_getElem? (i := 189) rfl) rfl
theorem wd_1632 : Cond.code yX10_barsBy cX10_barsBy 9 (some .boolean) ∈ TB := tb_7 (List.mem_of_getElem? (i := 192) rfl) rfl
theorem yd_X10_barsBy : yX10_barsBy.cls ≠ "java/lang/invoke/MethodHandle" ∧ yX10_barsBy.cls ≠ "java/lang/invoke/VarHandle" ∧ (parseMethodDescriptor yX10_barsBy.desc).map (fun d => d.parameters.length) = some 4 := by decide +kernel
theorem wd_1631 : Cond.instanceMethod yX10_barsBy ∈ TB := tb_7 (List.mem_of_getElem? (i := 191) rfl) rfl
theorem wp_83 : Cond.selects yX10_barsBy.cls yX10_barsBy yX10_barsBy ∈ TB := tbS (List.mem_of_getElem? (i := 83) (by decide +kernel)) rfl
theorem mv_RX10_439 : Mv RX10 439 yX10_barsBy cX10_barsBy 9 (some .boolean) 4 := ⟨wd_1629, wd_1631, wp_83, wd_11, wd_1632, (yd_X10_barsBy).1, (yd_X10_barsBy).2.1, (yd_X10_barsBy).2.2⟩
theorem wd_1625 : Cond.methodLink RX10 446 yX10_stands ∈ TB := tb_7 (List.mem_of_getElem? (i := 185) rfl) rfl
theorem wd_1628 : Cond.code yX10_stands cX10_stands 2 (some .boolean) ∈ TB := tb_7 (List.mem_of_getElem? (i := 188) rfl) rfl
theorem yd_X10_stands : yX10_stands.cls ≠ "java/lang/invoke/MethodHandle" ∧ yX10_stands.cls ≠ "java/lang/invoke/VarHandle" ∧ (parseMethodDescriptor yX10_stands.desc).map (fun d => d.parameters.length) = some 1 := by decide +kernel
theorem wd_1627 : Cond.instanceMethod yX10_stands ∈ TB := tb_7 (List.mem_of_getElem? (i := 187) rfl) rfl
theorem wp_82 : Cond.selects yX10_stands.cls yX10_stands yX10_stands ∈ TB := tbS (List.mem_of_getElem? (i := 82) (by decide +kernel)) rfl
theorem mv_RX10_446 : Mv RX10 446 yX10_stands cX10_stands 2 (some .boolean) 1 := ⟨wd_1625, wd_1627, wp_82, wd_11, wd_1628, (yd_X10_stands).1, (yd_X10_stands).2.1, (yd_X10_stands).2.2⟩
theorem wd_1621 : Cond.methodLink RX10 449 yX10_findBars ∈ TB := tb_7 (List.mem_of_getElem? (i := 181) rfl) rfl
theorem wd_1624 : Cond.code yX10_findBars cX10_findBars 5 none ∈ TB := tb_7 (List.mem_of_getElem? (i := 184) rfl) rfl
theorem yd_X10_findBars : yX10_findBars.cls ≠ "java/lang/invoke/MethodHandle" ∧ yX10_findBars.cls ≠ "java/lang/invoke/VarHandle" ∧ (parseMethodDescriptor yX10_findBars.desc).map (fun d => d.parameters.length) = some 1 := by decide +kernel
theorem wd_1623 : Cond.instanceMethod yX10_findBars ∈ TB := tb_7 (List.mem_of_getElem? (i := 183) rfl) rfl
theorem wp_81 : Cond.selects yX10_findBars.cls yX10_findBars yX10_findBars ∈ TB := tbS (List.mem_of_getElem? (i := 81) (by decide +kernel)) rfl
theorem mv_RX10_449 : Mv RX10 449 yX10_findBars cX10_findBars 5 none 1 := ⟨wd_1621, wd_1623, wp_81, wd_11, wd_1624, (yd_X10_findBars).1, (yd_X10_findBars).2.1, (yd_X10_findBars).2.2⟩
theorem wd_1617 : Cond.methodLink RX10 452 yX10_bringBars ∈ TB := tb_7 (List.mem_of_getElem? (i := 177) rfl) rfl
theorem wd_1620 : Cond.code yX10_bringBars cX10_bringBars 4 (some .boolean) ∈ TB := tb_7 (List.mem_of_getElem? (i := 180) rfl) rfl
theorem yd_X10_bringBars : yX10_bringBars.cls ≠ "java/lang/invoke/MethodHandle" ∧ yX10_bringBars.cls ≠ "java/lang/invoke/VarHandle" ∧ (parseMethodDescriptor yX10_bringBars.desc).map (fun d => d.parameters.length) = some 3 := by decide +kernel
theorem wd_1619 : Cond.instanceMethod yX10_bringBars ∈ TB := tb_7 (List.mem_of_getElem? (i := 179) rfl) rfl
theorem wp_80 : Cond.selects yX10_bringBars.cls yX10_bringBars yX10_bringBars ∈ TB := tbS (List.mem_of_getElem? (i := 80) (by decide +kernel)) rfl
theorem mv_RX10_452 : Mv RX10 452 yX10_bringBars cX10_bringBars 4 (some .boolean) 3 := ⟨wd_1617, wd_1619, wp_80, wd_11, wd_1620, (yd_X10_bringBars).1, (yd_X10_bringBars).2.1, (yd_X10_bringBars).2.2⟩
theorem wd_1671 : Cond.methodLink RX10 455 yX10_isLater ∈ TB := tb_7 (List.mem_of_getElem? (i := 231) rfl) rfl
theorem wd_1674 : Cond.code yX10_isLater cX10_isLater 3 (some .boolean) ∈ TB := tb_7 (List.mem_of_getElem? (i := 234) rfl) rfl
theorem yd_X10_isLater : yX10_isLater.cls ≠ "java/lang/invoke/MethodHandle" ∧ yX10_isLater.cls ≠ "java/lang/invoke/VarHandle" ∧ (parseMethodDescriptor yX10_isLater.desc).map (fun d => d.parameters.length) = some 2 := by decide +kernel
theorem wd_1673 : Cond.instanceMethod yX10_isLater ∈ TB := tb_7 (List.mem_of_getElem? (i := 233) rfl) rfl
theorem wp_91 : Cond.selects yX10_isLater.cls yX10_isLater yX10_isLater ∈ TB := tbS (List.mem_of_getElem? (i := 91) (by decide +kernel)) rfl
theorem mv_RX10_455 : Mv RX10 455 yX10_isLater cX10_isLater 3 (some .boolean) 2 := ⟨wd_1671, wd_1673, wp_91, wd_11, wd_1674, (yd_X10_isLater).1, (yd_X10_isLater).2.1, (yd_X10_isLater).2.2⟩
theorem wd_1675 : Cond.methodLink RX10 458 yX10_hasLeave ∈ TB := tb_7 (List.mem_of_getElem? (i := 235) rfl) rfl
theorem wd_1678 : Cond.code yX10_hasLeave cX10_hasLeave 4 (some .boolean) ∈ TB := tb_7 (List.mem_of_getElem? (i := 238) rfl) rfl
theorem yd_X10_hasLeave : yX10_hasLeave.cls ≠ "java/lang/invoke/MethodHandle" ∧ yX10_hasLeave.cls ≠ "java/lang/invoke/VarHandle" ∧ (parseMethodDescriptor yX10_hasLeave.desc).map (fun d => d.parameters.length) = some 2 := by decide +kernel
theorem wd_1677 : Cond.instanceMethod yX10_hasLeave ∈ TB := tb_7 (List.mem_of_getElem? (i := 237) rfl) rfl
theorem wp_92 : Cond.selects yX10_hasLeave.cls yX10_hasLeave yX10_hasLeave ∈ TB := tbS (List.mem_of_getElem? (i := 92) (by decide +kernel)) rfl
theorem mv_RX10_458 : Mv RX10 458 yX10_hasLeave cX10_hasLeave 4 (some .boolean) 2 := ⟨wd_1675, wd_1677, wp_92, wd_11, wd_1678, (yd_X10_hasLeave).1, (yd_X10_hasLeave).2.1, (yd_X10_hasLeave).2.2⟩
theorem wd_1679 : Cond.methodLink RX10 461 yX10_isSilent ∈ TB := tb_7 (List.mem_of_getElem? (i := 239) rfl) rfl
theorem wd_1682 : Cond.code yX10_isSilent cX10_isSilent 6 (some .boolean) ∈ TB := tb_8 (List.mem_of_getElem? (i := 2) rfl) rfl
theorem yd_X10_isSilent : yX10_isSilent.cls ≠ "java/lang/invoke/MethodHandle" ∧ yX10_isSilent.cls ≠ "java/lang/invoke/VarHandle" ∧ (parseMethodDescriptor yX10_isSilent.desc).map (fun d => d.parameters.length) = some 3 := by decide +kernel
theorem wd_1681 : Cond.instanceMethod yX10_isSilent ∈ TB := tb_8 (List.mem_of_getElem? (i := 1) rfl) rfl
theorem wp_93 : Cond.selects yX10_isSilent.cls yX10_isSilent yX10_isSilent ∈ TB := tbS (List.mem_of_getElem? (i := 93) (by decide +kernel)) rfl
theorem mv_RX10_461 : Mv RX10 461 yX10_isSilent cX10_isSilent 6 (some .boolean) 3 := ⟨wd_1679, wd_1681, wp_93, wd_11, wd_1682, (yd_X10_isSilent).1, (yd_X10_isSilent).2.1, (yd_X10_isSilent).2.2⟩
theorem wd_1663 : Cond.methodLink RX10 464 yX10_shortBy ∈ TB := tb_7 (List.mem_of_getElem? (i := 223) rfl) rfl
theorem wd_1666 : Cond.code yX10_shortBy cX10_shortBy 5 (some .int) ∈ TB := tb_7 (List.mem_of_getElem? (i := 226) rfl) rfl
theorem yd_X10_shortBy : yX10_shortBy.cls ≠ "java/lang/invoke/MethodHandle" ∧ yX10_shortBy.cls ≠ "java/lang/invoke/VarHandle" ∧ (parseMethodDescriptor yX10_shortBy.desc).map (fun d => d.parameters.length) = some 2 := by decide +kernel
theorem wd_1665 : Cond.instanceMethod yX10_shortBy ∈ TB := tb_7 (List.mem_of_getElem? (i := 225) rfl) rfl
theorem wp_89 : Cond.selects yX10_shortBy.cls yX10_shortBy yX10_shortBy ∈ TB := tbS (List.mem_of_getElem? (i := 89) (by decide +kernel)) rfl
theorem mv_RX10_464 : Mv RX10 464 yX10_shortBy cX10_shortBy 5 (some .int) 2 := ⟨wd_1663, wd_1665, wp_89, wd_11, wd_1666, (yd_X10_shortBy).1, (yd_X10_shortBy).2.1, (yd_X10_shortBy).2.2⟩
theorem wd_1667 : Cond.methodLink RX10 467 yX10_goer ∈ TB := tb_7 (List.mem_of_getElem? (i := 227) rfl) rfl
theorem wd_1670 : Cond.code yX10_goer cX10_goer 8 (some .int) ∈ TB := tb_7 (List.mem_of_getElem? (i := 230) rfl) rfl
theorem yd_X10_goer : yX10_goer.cls ≠ "java/lang/invoke/MethodHandle" ∧ yX10_goer.cls ≠ "java/lang/invoke/VarHandle" ∧ (parseMethodDescriptor yX10_goer.desc).map (fun d => d.parameters.length) = some 2 := by decide +kernel
theorem wd_1669 : Cond.instanceMethod yX10_goer ∈ TB := tb_7 (List.mem_of_getElem? (i := 229) rfl) rfl
theorem wp_90 : Cond.selects yX10_goer.cls yX10_goer yX10_goer ∈ TB := tbS (List.mem_of_getElem? (i := 90) (by decide +kernel)) rfl
theorem mv_RX10_467 : Mv RX10 467 yX10_goer cX10_goer 8 (some .int) 2 := ⟨wd_1667, wd_1669, wp_90, wd_11, wd_1670, (yd_X10_goer).1, (yd_X10_goer).2.1, (yd_X10_goer).2.2⟩
theorem wd_1695 : Cond.methodLink RX10 470 yX10_barsBoth ∈ TB := tb_8 (List.mem_of_getElem? (i := 15) rfl) rfl
theorem wd_1698 : Cond.code yX10_barsBoth cX10_barsBoth 6 (some .boolean) ∈ TB := tb_8 (List.mem_of_getElem? (i := 18) rfl) rfl
theorem yd_X10_barsBoth : yX10_barsBoth.cls ≠ "java/lang/invoke/MethodHandle" ∧ yX10_barsBoth.cls ≠ "java/lang/invoke/VarHandle" ∧ (parseMethodDescriptor yX10_barsBoth.desc).map (fun d => d.parameters.length) = some 4 := by decide +kernel
theorem wd_1697 : Cond.instanceMethod yX10_barsBoth ∈ TB := tb_8 (List.mem_of_getElem? (i := 17) rfl) rfl
theorem wp_94 : Cond.selects yX10_barsBoth.cls yX10_barsBoth yX10_barsBoth ∈ TB := tbS (List.mem_of_getElem? (i := 94) (by decide +kernel)) rfl
theorem mv_RX10_470 : Mv RX10 470 yX10_barsBoth cX10_barsBoth 6 (some .boolean) 4 := ⟨wd_1695, wd_1697, wp_94, wd_11, wd_1698, (yd_X10_barsBoth).1, (yd_X10_barsBoth).2.1, (yd_X10_barsBoth).2.2⟩
theorem wd_1703 : Cond.methodLink RX10 473 yX10_isAsked ∈ TB := tb_8 (List.mem_of_getElem? (i := 23) rfl) rfl
theorem wd_1706 : Cond.code yX10_isAsked cX10_isAsked 6 (some .boolean) ∈ TB := tb_8 (List.mem_of_getElem? (i := 26) rfl) rfl
theorem yd_X10_isAsked : yX10_isAsked.cls ≠ "java/lang/invoke/MethodHandle" ∧ yX10_isAsked.cls ≠ "java/lang/invoke/VarHandle" ∧ (parseMethodDescriptor yX10_isAsked.desc).map (fun d => d.parameters.length) = some 5 := by decide +kernel
theorem wd_1705 : Cond.instanceMethod yX10_isAsked ∈ TB := tb_8 (List.mem_of_getElem? (i := 25) rfl) rfl
theorem wp_95 : Cond.selects yX10_isAsked.cls yX10_isAsked yX10_isAsked ∈ TB := tbS (List.mem_of_getElem? (i := 95) (by decide +kernel)) rfl
theorem mv_RX10_473 : Mv RX10 473 yX10_isAsked cX10_isAsked 6 (some .boolean) 5 := ⟨wd_1703, wd_1705, wp_95, wd_11, wd_1706, (yd_X10_isAsked).1, (yd_X10_isAsked).2.1, (yd_X10_isAsked).2.2⟩
theorem wd_1707 : Cond.methodLink RX10 477 yX10_lay ∈ TB := tb_8 (List.mem_of_getElem? (i := 27) rfl) rfl
theorem wd_1710 : Cond.code yX10_lay cX10_lay 6 none ∈ TB := tb_8 (List.mem_of_getElem? (i := 30) rfl) rfl
theorem yd_X10_lay : yX10_lay.cls ≠ "java/lang/invoke/MethodHandle" ∧ yX10_lay.cls ≠ "java/lang/invoke/VarHandle" ∧ (parseMethodDescriptor yX10_lay.desc).map (fun d => d.parameters.length) = some 5 := by decide +kernel
theorem wd_1709 : Cond.instanceMethod yX10_lay ∈ TB := tb_8 (List.mem_of_getElem? (i := 29) rfl) rfl
theorem wp_96 : Cond.selects yX10_lay.cls yX10_lay yX10_lay ∈ TB := tbS (List.mem_of_getElem? (i := 96) (by decide +kernel)) rfl
theorem mv_RX10_477 : Mv RX10 477 yX10_lay cX10_lay 6 none 5 := ⟨wd_1707, wd_1709, wp_96, wd_11, wd_1710, (yd_X10_lay).1, (yd_X10_lay).2.1, (yd_X10_lay).2.2⟩
theorem wd_1711 : Cond.methodLink RX10 481 yX10_mayBy ∈ TB := tb_8 (List.mem_of_getElem? (i := 31) rfl) rfl
theorem wd_1714 : Cond.code yX10_mayBy cX10_mayBy 5 (some .boolean) ∈ TB := tb_8 (List.mem_of_getElem? (i := 34) rfl) rfl
theorem yd_X10_mayBy : yX10_mayBy.cls ≠ "java/lang/invoke/MethodHandle" ∧ yX10_mayBy.cls ≠ "java/lang/invoke/VarHandle" ∧ (parseMethodDescriptor yX10_mayBy.desc).map (fun d => d.parameters.length) = some 3 := by decide +kernel
theorem wd_1713 : Cond.instanceMethod yX10_mayBy ∈ TB := tb_8 (List.mem_of_getElem? (i := 33) rfl) rfl
theorem wp_97 : Cond.selects yX10_mayBy.cls yX10_mayBy yX10_mayBy ∈ TB := tbS (List.mem_of_getElem? (i := 97) (by decide +kernel)) rfl
theorem mv_RX10_481 : Mv RX10 481 yX10_mayBy cX10_mayBy 5 (some .boolean) 3 := ⟨wd_1711, wd_1713, wp_97, wd_11, wd_1714, (yd_X10_mayBy).1, (yd_X10_mayBy).2.1, (yd_X10_mayBy).2.2⟩
theorem wd_1719 : Cond.methodLink RX10 487 yX10_spotsBy ∈ TB := tb_8 (List.mem_of_getElem? (i := 39) rfl) rfl
theorem wd_1722 : Cond.code yX10_spotsBy cX10_spotsBy 8 (some .int) ∈ TB := tb_8 (List.mem_of_getElem? (i := 42) rfl) rfl
theorem yd_X10_spotsBy : yX10_spotsBy.cls ≠ "java/lang/invoke/MethodHandle" ∧ yX10_spotsBy.cls ≠ "java/lang/invoke/VarHandle" ∧ (parseMethodDescriptor yX10_spotsBy.desc).map (fun d => d.parameters.length) = some 5 := by decide +kernel
theorem wd_1721 : Cond.instanceMethod yX10_spotsBy ∈ TB := tb_8 (List.mem_of_getElem? (i := 41) rfl) rfl
theorem wp_98 : Cond.selects yX10_spotsBy.cls yX10_spotsBy yX10_spotsBy ∈ TB := tbS (List.mem_of_getElem? (i := 98) (by decide +kernel)) rfl
theorem mv_RX10_487 : Mv RX10 487 yX10_spotsBy cX10_spotsBy 8 (some .int) 5 := ⟨wd_1719, wd_1721, wp_98, wd_11, wd_1722, (yd_X10_spotsBy).1, (yd_X10_spotsBy).2.1, (yd_X10_spotsBy).2.2⟩
theorem wd_1743 : Cond.methodLink RX10 491 yX10_fits ∈ TB := tb_8 (List.mem_of_getElem? (i := 63) rfl) rfl
theorem wd_1746 : Cond.code yX10_fits cX10_fits 5 (some .boolean) ∈ TB := tb_8 (List.mem_of_getElem? (i := 66) rfl) rfl
theorem yd_X10_fits : yX10_fits.cls ≠ "java/lang/invoke/MethodHandle" ∧ yX10_fits.cls ≠ "java/lang/invoke/VarHandle" ∧ (parseMethodDescriptor yX10_fits.desc).map (fun d => d.parameters.length) = some 3 := by decide +kernel
theorem wd_1745 : Cond.instanceMethod yX10_fits ∈ TB := tb_8 (List.mem_of_getElem? (i := 65) rfl) rfl
theorem wp_100 : Cond.selects yX10_fits.cls yX10_fits yX10_fits ∈ TB := tbS (List.mem_of_getElem? (i := 100) (by decide +kernel)) rfl
theorem mv_RX10_491 : Mv RX10 491 yX10_fits cX10_fits 5 (some .boolean) 3 := ⟨wd_1743, wd_1745, wp_100, wd_11, wd_1746, (yd_X10_fits).1, (yd_X10_fits).2.1, (yd_X10_fits).2.2⟩
theorem wd_1739 : Cond.methodLink RX10 494 yX10_findPlan ∈ TB := tb_8 (List.mem_of_getElem? (i := 59) rfl) rfl
theorem wd_1742 : Cond.code yX10_findPlan cX10_findPlan 8 (some .boolean) ∈ TB := tb_8 (List.mem_of_getElem? (i := 62) rfl) rfl
theorem yd_X10_findPlan : yX10_findPlan.cls ≠ "java/lang/invoke/MethodHandle" ∧ yX10_findPlan.cls ≠ "java/lang/invoke/VarHandle" ∧ (parseMethodDescriptor yX10_findPlan.desc).map (fun d => d.parameters.length) = some 4 := by decide +kernel
theorem wd_1741 : Cond.instanceMethod yX10_findPlan ∈ TB := tb_8 (List.mem_of_getElem? (i := 61) rfl) rfl
theorem wp_99 : Cond.selects yX10_findPlan.cls yX10_findPlan yX10_findPlan ∈ TB := tbS (List.mem_of_getElem? (i := 99) (by decide +kernel)) rfl
theorem mv_RX10_494 : Mv RX10 494 yX10_findPlan cX10_findPlan 8 (some .boolean) 4 := ⟨wd_1739, wd_1741, wp_99, wd_11, wd_1742, (yd_X10_findPlan).1, (yd_X10_findPlan).2.1, (yd_X10_findPlan).2.2⟩
theorem wd_1755 : Cond.methodLink RX10 498 yX10_frees ∈ TB := tb_8 (List.mem_of_getElem? (i := 75) rfl) rfl
theorem wd_1758 : Cond.code yX10_frees cX10_frees 3 (some .boolean) ∈ TB := tb_8 (List.mem_of_getElem? (i := 78) rfl) rfl
theorem yd_X10_frees : yX10_frees.cls ≠ "java/lang/invoke/MethodHandle" ∧ yX10_frees.cls ≠ "java/lang/invoke/VarHandle" ∧ (parseMethodDescriptor yX10_frees.desc).map (fun d => d.parameters.length) = some 1 := by decide +kernel
theorem wd_1757 : Cond.instanceMethod yX10_frees ∈ TB := tb_8 (List.mem_of_getElem? (i := 77) rfl) rfl
theorem wp_101 : Cond.selects yX10_frees.cls yX10_frees yX10_frees ∈ TB := tbS (List.mem_of_getElem? (i := 101) (by decide +kernel)) rfl
theorem mv_RX10_498 : Mv RX10 498 yX10_frees cX10_frees 3 (some .boolean) 1 := ⟨wd_1755, wd_1757, wp_101, wd_11, wd_1758, (yd_X10_frees).1, (yd_X10_frees).2.1, (yd_X10_frees).2.2⟩
theorem wd_1759 : Cond.methodLink RX10 501 yX10_costOf ∈ TB := tb_8 (List.mem_of_getElem? (i := 79) rfl) rfl
theorem wd_1762 : Cond.code yX10_costOf cX10_costOf 5 (some .int) ∈ TB := tb_8 (List.mem_of_getElem? (i := 82) rfl) rfl
theorem yd_X10_costOf : yX10_costOf.cls ≠ "java/lang/invoke/MethodHandle" ∧ yX10_costOf.cls ≠ "java/lang/invoke/VarHandle" ∧ (parseMethodDescriptor yX10_costOf.desc).map (fun d => d.parameters.length) = some 2 := by decide +kernel
theorem wd_1761 : Cond.instanceMethod yX10_costOf ∈ TB := tb_8 (List.mem_of_getElem? (i := 81) rfl) rfl
theorem wp_102 : Cond.selects yX10_costOf.cls yX10_costOf yX10_costOf ∈ TB := tbS (List.mem_of_getElem? (i := 102) (by decide +kernel)) rfl
theorem mv_RX10_501 : Mv RX10 501 yX10_costOf cX10_costOf 5 (some .int) 2 := ⟨wd_1759, wd_1761, wp_102, wd_11, wd_1762, (yd_X10_costOf).1, (yd_X10_costOf).2.1, (yd_X10_costOf).2.2⟩
theorem wd_1763 : Cond.methodLink RX10 504 yX10_ones ∈ TB := tb_8 (List.mem_of_getElem? (i := 83) rfl) rfl
theorem wd_1765 : Cond.code yX10_ones cX10_ones 3 (some .int) ∈ TB := tb_8 (List.mem_of_getElem? (i := 85) rfl) rfl
theorem yd_X10_ones : yX10_ones.cls ≠ "java/lang/invoke/MethodHandle" ∧ yX10_ones.cls ≠ "java/lang/invoke/VarHandle" ∧ (parseMethodDescriptor yX10_ones.desc).map (fun d => d.parameters.length) = some 1 := by decide +kernel
theorem wd_1764 : Cond.static yX10_ones ∈ TB := tb_8 (List.mem_of_getElem? (i := 84) rfl) rfl
theorem mv_RX10_504 : Ms RX10 504 yX10_ones cX10_ones 3 (some .int) 1 := ⟨wd_1763, wd_1764, wd_11, wd_1765, (yd_X10_ones).1, (yd_X10_ones).2.1, (yd_X10_ones).2.2⟩
theorem wd_1766 : Cond.methodLink RX10 507 yX10_isLessRow ∈ TB := tb_8 (List.mem_of_getElem? (i := 86) rfl) rfl
theorem wd_1768 : Cond.code yX10_isLessRow cX10_isLessRow 3 (some .boolean) ∈ TB := tb_8 (List.mem_of_getElem? (i := 88) rfl) rfl
theorem yd_X10_isLessRow : yX10_isLessRow.cls ≠ "java/lang/invoke/MethodHandle" ∧ yX10_isLessRow.cls ≠ "java/lang/invoke/VarHandle" ∧ (parseMethodDescriptor yX10_isLessRow.desc).map (fun d => d.parameters.length) = some 2 := by decide +kernel
theorem wd_1767 : Cond.static yX10_isLessRow ∈ TB := tb_8 (List.mem_of_getElem? (i := 87) rfl) rfl
theorem mv_RX10_507 : Ms RX10 507 yX10_isLessRow cX10_isLessRow 3 (some .boolean) 2 := ⟨wd_1766, wd_1767, wd_11, wd_1768, (yd_X10_isLessRow).1, (yd_X10_isLessRow).2.1, (yd_X10_isLessRow).2.2⟩
theorem wd_1797 : Cond.methodLink RX10 510 yX10_put ∈ TB := tb_8 (List.mem_of_getElem? (i := 117) rfl) rfl
theorem wd_1800 : Cond.code yX10_put cX10_put 3 none ∈ TB := tb_8 (List.mem_of_getElem? (i := 120) rfl) rfl
theorem yd_X10_put : yX10_put.cls ≠ "java/lang/invoke/MethodHandle" ∧ yX10_put.cls ≠ "java/lang/invoke/VarHandle" ∧ (parseMethodDescriptor yX10_put.desc).map (fun d => d.parameters.length) = some 2 := by decide +kernel
theorem wd_1799 : Cond.instanceMethod yX10_put ∈ TB := tb_8 (List.mem_of_getElem? (i := 119) rfl) rfl
theorem wp_106 : Cond.selects yX10_put.cls yX10_put yX10_put ∈ TB := tbS (List.mem_of_getElem? (i := 106) (by decide +kernel)) rfl
theorem mv_RX10_510 : Mv RX10 510 yX10_put cX10_put 3 none 2 := ⟨wd_1797, wd_1799, wp_106, wd_11, wd_1800, (yd_X10_put).1, (yd_X10_put).2.1, (yd_X10_put).2.2⟩
theorem wd_1793 : Cond.methodLink RX10 513 yX10_findPoints ∈ TB := tb_8 (List.mem_of_getElem? (i := 113) rfl) rfl
theorem wd_1796 : Cond.code yX10_findPoints cX10_findPoints 8 none ∈ TB := tb_8 (List.mem_of_getElem? (i := 116) rfl) rfl
theorem yd_X10_findPoints : yX10_findPoints.cls ≠ "java/lang/invoke/MethodHandle" ∧ yX10_findPoints.cls ≠ "java/lang/invoke/VarHandle" ∧ (parseMethodDescriptor yX10_findPoints.desc).map (fun d => d.parameters.length) = some 4 := by decide +kernel
theorem wd_1795 : Cond.instanceMethod yX10_findPoints ∈ TB := tb_8 (List.mem_of_getElem? (i := 115) rfl) rfl
theorem wp_105 : Cond.selects yX10_findPoints.cls yX10_findPoints yX10_findPoints ∈ TB := tbS (List.mem_of_getElem? (i := 105) (by decide +kernel)) rfl
theorem mv_RX10_513 : Mv RX10 513 yX10_findPoints cX10_findPoints 8 none 4 := ⟨wd_1793, wd_1795, wp_105, wd_11, wd_1796, (yd_X10_findPoints).1, (yd_X10_findPoints).2.1, (yd_X10_findPoints).2.2⟩
theorem wd_1801 : Cond.methodLink RX10 517 yX10_putBack ∈ TB := tb_8 (List.mem_of_getElem? (i := 121) rfl) rfl
theorem wd_1804 : Cond.code yX10_putBack cX10_putBack 2 none ∈ TB := tb_8 (List.mem_of_getElem? (i := 124) rfl) rfl
theorem yd_X10_putBack : yX10_putBack.cls ≠ "java/lang/invoke/MethodHandle" ∧ yX10_putBack.cls ≠ "java/lang/invoke/VarHandle" ∧ (parseMethodDescriptor yX10_putBack.desc).map (fun d => d.parameters.length) = some 1 := by decide +kernel
theorem wd_1803 : Cond.instanceMethod yX10_putBack ∈ TB := tb_8 (List.mem_of_getElem? (i := 123) rfl) rfl
theorem wp_107 : Cond.selects yX10_putBack.cls yX10_putBack yX10_putBack ∈ TB := tbS (List.mem_of_getElem? (i := 107) (by decide +kernel)) rfl
theorem mv_RX10_517 : Mv RX10 517 yX10_putBack cX10_putBack 2 none 1 := ⟨wd_1801, wd_1803, wp_107, wd_11, wd_1804, (yd_X10_putBack).1, (yd_X10_putBack).2.1, (yd_X10_putBack).2.2⟩
theorem wd_1789 : Cond.methodLink RX10 532 yX10_movesOne ∈ TB := tb_8 (List.mem_of_getElem? (i := 109) rfl) rfl
theorem wd_1792 : Cond.code yX10_movesOne cX10_movesOne 4 (some .boolean) ∈ TB := tb_8 (List.mem_of_getElem? (i := 112) rfl) rfl
theorem yd_X10_movesOne : yX10_movesOne.cls ≠ "java/lang/invoke/MethodHandle" ∧ yX10_movesOne.cls ≠ "java/lang/invoke/VarHandle" ∧ (parseMethodDescriptor yX10_movesOne.desc).map (fun d => d.parameters.length) = some 2 := by decide +kernel
theorem wd_1791 : Cond.instanceMethod yX10_movesOne ∈ TB := tb_8 (List.mem_of_getElem? (i := 111) rfl) rfl
theorem wp_104 : Cond.selects yX10_movesOne.cls yX10_movesOne yX10_movesOne ∈ TB := tbS (List.mem_of_getElem? (i := 104) (by decide +kernel)) rfl
theorem mv_RX10_532 : Mv RX10 532 yX10_movesOne cX10_movesOne 4 (some .boolean) 2 := ⟨wd_1789, wd_1791, wp_104, wd_11, wd_1792, (yd_X10_movesOne).1, (yd_X10_movesOne).2.1, (yd_X10_movesOne).2.2⟩
theorem wd_1805 : Cond.methodLink RX10 535 yX10_movesTwo ∈ TB := tb_8 (List.mem_of_getElem? (i := 125) rfl) rfl
theorem wd_1808 : Cond.code yX10_movesTwo cX10_movesTwo 7 (some .boolean) ∈ TB := tb_8 (List.mem_of_getElem? (i := 128) rfl) rfl
theorem yd_X10_movesTwo : yX10_movesTwo.cls ≠ "java/lang/invoke/MethodHandle" ∧ yX10_movesTwo.cls ≠ "java/lang/invoke/VarHandle" ∧ (parseMethodDescriptor yX10_movesTwo.desc).map (fun d => d.parameters.length) = some 3 := by decide +kernel
theorem wd_1807 : Cond.instanceMethod yX10_movesTwo ∈ TB := tb_8 (List.mem_of_getElem? (i := 127) rfl) rfl
theorem wp_108 : Cond.selects yX10_movesTwo.cls yX10_movesTwo yX10_movesTwo ∈ TB := tbS (List.mem_of_getElem? (i := 108) (by decide +kernel)) rfl
theorem mv_RX10_535 : Mv RX10 535 yX10_movesTwo cX10_movesTwo 7 (some .boolean) 3 := ⟨wd_1805, wd_1807, wp_108, wd_11, wd_1808, (yd_X10_movesTwo).1, (yd_X10_movesTwo).2.1, (yd_X10_movesTwo).2.2⟩
theorem wd_1785 : Cond.methodLink RX10 538 yX10_findMoved ∈ TB := tb_8 (List.mem_of_getElem? (i := 105) rfl) rfl
theorem wd_1788 : Cond.code yX10_findMoved cX10_findMoved 4 (some .int) ∈ TB := tb_8 (List.mem_of_getElem? (i := 108) rfl) rfl
theorem yd_X10_findMoved : yX10_findMoved.cls ≠ "java/lang/invoke/MethodHandle" ∧ yX10_findMoved.cls ≠ "java/lang/invoke/VarHandle" ∧ (parseMethodDescriptor yX10_findMoved.desc).map (fun d => d.parameters.length) = some 1 := by decide +kernel
theorem wd_1787 : Cond.instanceMethod yX10_findMoved ∈ TB := tb_8 (List.mem_of_getElem? (i := 107) rfl) rfl
theorem wp_103 : Cond.selects yX10_findMoved.cls yX10_findMoved yX10_findMoved ∈ TB := tbS (List.mem_of_getElem? (i := 103) (by decide +kernel)) rfl
theorem mv_RX10_538 : Mv RX10 538 yX10_findMoved cX10_findMoved 4 (some .int) 1 := ⟨wd_1785, wd_1787, wp_103, wd_11, wd_1788, (yd_X10_findMoved).1, (yd_X10_findMoved).2.1, (yd_X10_findMoved).2.2⟩
theorem wd_1841 : Cond.methodLink RX10 541 yX10_copy ∈ TB := tb_8 (List.mem_of_getElem? (i := 161) rfl) rfl
theorem wd_1844 : Cond.code yX10_copy cX10_copy 4 none ∈ TB := tb_8 (List.mem_of_getElem? (i := 164) rfl) rfl
theorem yd_X10_copy : yX10_copy.cls ≠ "java/lang/invoke/MethodHandle" ∧ yX10_copy.cls ≠ "java/lang/invoke/VarHandle" ∧ (parseMethodDescriptor yX10_copy.desc).map (fun d => d.parameters.length) = some 2 := by decide +kernel
theorem wd_1843 : Cond.instanceMethod yX10_copy ∈ TB := tb_8 (List.mem_of_getElem? (i := 163) rfl) rfl
theorem wp_109 : Cond.selects yX10_copy.cls yX10_copy yX10_copy ∈ TB := tbS (List.mem_of_getElem? (i := 109) (by decide +kernel)) rfl
theorem mv_RX10_541 : Mv RX10 541 yX10_copy cX10_copy 4 none 2 := ⟨wd_1841, wd_1843, wp_109, wd_11, wd_1844, (yd_X10_copy).1, (yd_X10_copy).2.1, (yd_X10_copy).2.2⟩
theorem wd_470 : Cond.methodLink RJ0 335 yJ0_coder_7d493 ∈ TB := tb_2 (List.mem_of_getElem? (i := 230) rfl) rfl
theorem wd_473 : Cond.code yJ0_coder_7d493 cJ0_coder_7d493 1 (some .byte) ∈ TB := tb_2 (List.mem_of_getElem? (i := 233) rfl) rfl
theorem yd_J0_coder_7d493 : yJ0_coder_7d493.cls ≠ "java/lang/invoke/MethodHandle" ∧ yJ0_coder_7d493.cls ≠ "java/lang/invoke/VarHandle" ∧ (parseMethodDescriptor yJ0_coder_7d493.desc).map (fun d => d.parameters.length) = some 0 := by decide +kernel
theorem wd_471 : Cond.instanceMethod yJ0_coder_7d493 ∈ TB := tb_2 (List.mem_of_getElem? (i := 231) rfl) rfl
theorem wd_472 : Cond.selects yJ0_coder_7d493.cls yJ0_coder_7d493 yJ0_coder_7d493 ∈ TB := tb_2 (List.mem_of_getElem? (i := 232) rfl) rfl
theorem mv_RJ0_335 : Mv RJ0 335 yJ0_coder_7d493 cJ0_coder_7d493 1 (some .byte) 0 := ⟨wd_470, wd_471, wd_472, wd_12, wd_473, (yd_J0_coder_7d493).1, (yd_J0_coder_7d493).2.1, (yd_J0_coder_7d493).2.2⟩
theorem wd_480 : Cond.methodLink RJ0 492 yJ0_isLatin1_aae02 ∈ TB := tb_3 (List.mem_of_getElem? (i := 0) rfl) rfl
theorem wd_483 : Cond.code yJ0_isLatin1_aae02 cJ0_isLatin1_aae02 1 (some .boolean) ∈ TB := tb_3 (List.mem_of_getElem? (i := 3) rfl) rfl
theorem yd_J0_isLatin1_aae02 : yJ0_isLatin1_aae02.cls ≠ "java/lang/invoke/MethodHandle" ∧ yJ0_isLatin1_aae02.cls ≠ "java/lang/invoke/VarHandle" ∧ (parseMethodDescriptor yJ0_isLatin1_aae02.desc).map (fun d => d.parameters.length) = some 0 := by decide +kernel
theorem wd_481 : Cond.instanceMethod yJ0_isLatin1_aae02 ∈ TB := tb_3 (List.mem_of_getElem? (i := 1) rfl) rfl
theorem wd_482 : Cond.selects yJ0_isLatin1_aae02.cls yJ0_isLatin1_aae02 yJ0_isLatin1_aae02 ∈ TB := tb_3 (List.mem_of_getElem? (i := 2) rfl) rfl
theorem mv_RJ0_492 : Mv RJ0 492 yJ0_isLatin1_aae02 cJ0_isLatin1_aae02 1 (some .boolean) 0 := ⟨wd_480, wd_481, wd_482, wd_12, wd_483, (yd_J0_isLatin1_aae02).1, (yd_J0_isLatin1_aae02).2.1, (yd_J0_isLatin1_aae02).2.2⟩
theorem wd_484 : Cond.methodLink RJ0 495 yJ1_charAt_3b067 ∈ TB := tb_3 (List.mem_of_getElem? (i := 4) rfl) rfl
theorem wd_486 : Cond.code yJ1_charAt_3b067 cJ1_charAt_3b067 2 (some .char) ∈ TB := tb_3 (List.mem_of_getElem? (i := 6) rfl) rfl
theorem wd_13 : Cond.initialized yJ1_charAt_3b067.cls ∈ TB := tb_1 (List.mem_of_getElem? (i := 13) rfl) rfl
theorem yd_J1_charAt_3b067 : yJ1_charAt_3b067.cls ≠ "java/lang/invoke/MethodHandle" ∧ yJ1_charAt_3b067.cls ≠ "java/lang/invoke/VarHandle" ∧ (parseMethodDescriptor yJ1_charAt_3b067.desc).map (fun d => d.parameters.length) = some 2 := by decide +kernel
theorem wd_485 : Cond.static yJ1_charAt_3b067 ∈ TB := tb_3 (List.mem_of_getElem? (i := 5) rfl) rfl
theorem mv_RJ0_495 : Ms RJ0 495 yJ1_charAt_3b067 cJ1_charAt_3b067 2 (some .char) 2 := ⟨wd_484, wd_485, wd_13, wd_486, (yd_J1_charAt_3b067).1, (yd_J1_charAt_3b067).2.1, (yd_J1_charAt_3b067).2.2⟩
theorem wd_495 : Cond.methodLink RJ0 498 yJ2_charAt_3b067 ∈ TB := tb_3 (List.mem_of_getElem? (i := 15) rfl) rfl
theorem wd_497 : Cond.code yJ2_charAt_3b067 cJ2_charAt_3b067 2 (some .char) ∈ TB := tb_3 (List.mem_of_getElem? (i := 17) rfl) rfl
theorem wd_15 : Cond.initialized yJ2_charAt_3b067.cls ∈ TB := tb_1 (List.mem_of_getElem? (i := 15) rfl) rfl
theorem yd_J2_charAt_3b067 : yJ2_charAt_3b067.cls ≠ "java/lang/invoke/MethodHandle" ∧ yJ2_charAt_3b067.cls ≠ "java/lang/invoke/VarHandle" ∧ (parseMethodDescriptor yJ2_charAt_3b067.desc).map (fun d => d.parameters.length) = some 2 := by decide +kernel
theorem wd_496 : Cond.static yJ2_charAt_3b067 ∈ TB := tb_3 (List.mem_of_getElem? (i := 16) rfl) rfl
theorem mv_RJ0_498 : Ms RJ0 498 yJ2_charAt_3b067 cJ2_charAt_3b067 2 (some .char) 2 := ⟨wd_495, wd_496, wd_15, wd_497, (yd_J2_charAt_3b067).1, (yd_J2_charAt_3b067).2.1, (yd_J2_charAt_3b067).2.2⟩
theorem wd_492 : Cond.methodLink RJ0 1059 yJ3_checkIndex_8e157 ∈ TB := tb_3 (List.mem_of_getElem? (i := 12) rfl) rfl
theorem wd_494 : Cond.code yJ3_checkIndex_8e157 cJ3_checkIndex_8e157 3 (some .int) ∈ TB := tb_3 (List.mem_of_getElem? (i := 14) rfl) rfl
theorem wd_14 : Cond.initialized yJ3_checkIndex_8e157.cls ∈ TB := tb_1 (List.mem_of_getElem? (i := 14) rfl) rfl
theorem yd_J3_checkIndex_8e157 : yJ3_checkIndex_8e157.cls ≠ "java/lang/invoke/MethodHandle" ∧ yJ3_checkIndex_8e157.cls ≠ "java/lang/invoke/VarHandle" ∧ (parseMethodDescriptor yJ3_checkIndex_8e157.desc).map (fun d => d.parameters.length) = some 3 := by decide +kernel
theorem wd_493 : Cond.static yJ3_checkIndex_8e157 ∈ TB := tb_3 (List.mem_of_getElem? (i := 13) rfl) rfl
theorem mv_RJ0_1059 : Ms RJ0 1059 yJ3_checkIndex_8e157 cJ3_checkIndex_8e157 3 (some .int) 3 := ⟨wd_492, wd_493, wd_14, wd_494, (yd_J3_checkIndex_8e157).1, (yd_J3_checkIndex_8e157).2.1, (yd_J3_checkIndex_8e157).2.2⟩
theorem wd_487 : Cond.methodLink RJ1 9 yJ0_checkIndex_df160 ∈ TB := tb_3 (List.mem_of_getElem? (i := 7) rfl) rfl
theorem wd_489 : Cond.code yJ0_checkIndex_df160 cJ0_checkIndex_df160 2 none ∈ TB := tb_3 (List.mem_of_getElem? (i := 9) rfl) rfl
theorem yd_J0_checkIndex_df160 : yJ0_checkIndex_df160.cls ≠ "java/lang/invoke/MethodHandle" ∧ yJ0_checkIndex_df160.cls ≠ "java/lang/invoke/VarHandle" ∧ (parseMethodDescriptor yJ0_checkIndex_df160.desc).map (fun d => d.parameters.length) = some 2 := by decide +kernel
theorem wd_488 : Cond.static yJ0_checkIndex_df160 ∈ TB := tb_3 (List.mem_of_getElem? (i := 8) rfl) rfl
theorem mv_RJ1_9 : Ms RJ1 9 yJ0_checkIndex_df160 cJ0_checkIndex_df160 2 none 2 := ⟨wd_487, wd_488, wd_12, wd_489, (yd_J0_checkIndex_df160).1, (yd_J0_checkIndex_df160).2.1, (yd_J0_checkIndex_df160).2.2⟩
theorem wd_501 : Cond.methodLink RJ2 48 yJ2_length_9d52b ∈ TB := tb_3 (List.mem_of_getElem? (i := 21) rfl) rfl
theorem wd_503 : Cond.code yJ2_length_9d52b cJ2_length_9d52b 1 (some .int) ∈ TB := tb_3 (List.mem_of_getElem? (i := 23) rfl) rfl
theorem yd_J2_length_9d52b : yJ2_length_9d52b.cls ≠ "java/lang/invoke/MethodHandle" ∧ yJ2_length_9d52b.cls ≠ "java/lang/invoke/VarHandle" ∧ (parseMethodDescriptor yJ2_length_9d52b.desc).map (fun d => d.parameters.length) = some 1 := by decide +kernel
theorem wd_502 : Cond.static yJ2_length_9d52b ∈ TB := tb_3 (List.mem_of_getElem? (i := 22) rfl) rfl
theorem mv_RJ2_48 : Ms RJ2 48 yJ2_length_9d52b cJ2_length_9d52b 1 (some .int) 1 := ⟨wd_501, wd_502, wd_15, wd_503, (yd_J2_length_9d52b).1, (yd_J2_length_9d52b).2.1, (yd_J2_length_9d52b).2.2⟩
theorem wd_498 : Cond.methodLink RJ2 67 yJ2_checkIndex_2214a ∈ TB := tb_3 (List.mem_of_getElem? (i := 18) rfl) rfl
theorem wd_500 : Cond.code yJ2_checkIndex_2214a cJ2_checkIndex_2214a 2 none ∈ TB := tb_3 (List.mem_of_getElem? (i := 20) rfl) rfl
theorem yd_J2_checkIndex_2214a : yJ2_checkIndex_2214a.cls ≠ "java/lang/invoke/MethodHandle" ∧ yJ2_checkIndex_2214a.cls ≠ "java/lang/invoke/VarHandle" ∧ (parseMethodDescriptor yJ2_checkIndex_2214a.desc).map (fun d => d.parameters.length) = some 2 := by decide +kernel
theorem wd_499 : Cond.static yJ2_checkIndex_2214a ∈ TB := tb_3 (List.mem_of_getElem? (i := 19) rfl) rfl
theorem mv_RJ2_67 : Ms RJ2 67 yJ2_checkIndex_2214a cJ2_checkIndex_2214a 2 none 2 := ⟨wd_498, wd_499, wd_15, wd_500, (yd_J2_checkIndex_2214a).1, (yd_J2_checkIndex_2214a).2.1, (yd_J2_checkIndex_2214a).2.2⟩
theorem wd_505 : Cond.methodLink RJ2 71 yJ2_getChar_3b067 ∈ TB := tb_3 (List.mem_of_getElem? (i := 25) rfl) rfl
theorem wd_507 : Cond.code yJ2_getChar_3b067 cJ2_getChar_3b067 2 (some .char) ∈ TB := tb_3 (List.mem_of_getElem? (i := 27) rfl) rfl
theorem yd_J2_getChar_3b067 : yJ2_getChar_3b067.cls ≠ "java/lang/invoke/MethodHandle" ∧ yJ2_getChar_3b067.cls ≠ "java/lang/invoke/VarHandle" ∧ (parseMethodDescriptor yJ2_getChar_3b067.desc).map (fun d => d.parameters.length) = some 2 := by decide +kernel
theorem wd_506 : Cond.static yJ2_getChar_3b067 ∈ TB := tb_3 (List.mem_of_getElem? (i := 26) rfl) rfl
theorem mv_RJ2_71 : Ms RJ2 71 yJ2_getChar_3b067 cJ2_getChar_3b067 2 (some .char) 2 := ⟨wd_505, wd_506, wd_15, wd_507, (yd_J2_getChar_3b067).1, (yd_J2_getChar_3b067).2.1, (yd_J2_getChar_3b067).2.2⟩
theorem wd_504 : Cond.methodLink RJ2 414 yJ0_checkIndex_df160 ∈ TB := tb_3 (List.mem_of_getElem? (i := 24) rfl) rfl
theorem mv_RJ2_414 : Ms RJ2 414 yJ0_checkIndex_df160 cJ0_checkIndex_df160 2 none 2 := ⟨wd_504, wd_488, wd_12, wd_489, (yd_J0_checkIndex_df160).1, (yd_J0_checkIndex_df160).2.1, (yd_J0_checkIndex_df160).2.2⟩
theorem wd_262 : Cond.instanceMethod yX0_init ∈ TB := tb_2 (List.mem_of_getElem? (i := 22) rfl) rfl
theorem wd_263 : Cond.code yX0_init cX0_init 1 none ∈ TB := tb_2 (List.mem_of_getElem? (i := 23) rfl) rfl
theorem mv_RX3_21 : Mn RX3 21 yX0_init cX0_init 1 0 "FarTown" := ⟨by decide +kernel, wd_262, wd_8, wd_263, rfl, by decide +kernel, by decide +kernel, by decide +kernel⟩
theorem mv_RX5_17 : Mn RX5 17 yX0_init cX0_init 1 0 "FarTown" := ⟨by decide +kernel, wd_262, wd_8, wd_263, rfl, by decide +kernel, by decide +kernel, by decide +kernel⟩
theorem wd_28 : Cond.classLink RX9 7 RX7 ∈ TB := tb_1 (List.mem_of_getElem? (i := 28) rfl) rfl
theorem cl_RX9_7 : Cond.classLink RX9 7 RX7 ∈ TB := wd_28
theorem wd_201 : Cond.classLink RX9 20 RX4 ∈ TB := tb_1 (List.mem_of_getElem? (i := 201) rfl) rfl
theorem cl_RX9_20 : Cond.classLink RX9 20 RX4 ∈ TB := wd_201
theorem wd_252 : Cond.classLink RX9 27 RX5 ∈ TB := tb_2 (List.mem_of_getElem? (i := 12) rfl) rfl
theorem cl_RX9_27 : Cond.classLink RX9 27 RX5 ∈ TB := wd_252
theorem wd_327 : Cond.classLink RX9 34 RX1 ∈ TB := tb_2 (List.mem_of_getElem? (i := 87) rfl) rfl
theorem cl_RX9_34 : Cond.classLink RX9 34 RX1 ∈ TB := wd_327
theorem wd_348 : Cond.classLink RX9 43 RX3 ∈ TB := tb_2 (List.mem_of_getElem? (i := 108) rfl) rfl
theorem cl_RX9_43 : Cond.classLink RX9 43 RX3 ∈ TB := wd_348
theorem wd_141 : Cond.classLink RX2 9 RX6 ∈ TB := tb_1 (List.mem_of_getElem? (i := 141) rfl) rfl
theorem cl_RX2_9 : Cond.classLink RX2 9 RX6 ∈ TB := wd_141
theorem wd_354 : Cond.classLink RX3 15 RX0 ∈ TB := tb_2 (List.mem_of_getElem? (i := 114) rfl) rfl
theorem cl_RX3_15 : Cond.classLink RX3 15 RX0 ∈ TB := wd_354
theorem wd_207 : Cond.classLink RX4 9 RX8 ∈ TB := tb_1 (List.mem_of_getElem? (i := 207) rfl) rfl
theorem cl_RX4_9 : Cond.classLink RX4 9 RX8 ∈ TB := wd_207
theorem wd_209 : Cond.classLink RX4 18 RX2 ∈ TB := tb_1 (List.mem_of_getElem? (i := 209) rfl) rfl
theorem cl_RX4_18 : Cond.classLink RX4 18 RX2 ∈ TB := wd_209
theorem wd_258 : Cond.classLink RX5 9 RX0 ∈ TB := tb_2 (List.mem_of_getElem? (i := 18) rfl) rfl
theorem cl_RX5_9 : Cond.classLink RX5 9 RX0 ∈ TB := wd_258
theorem wd_34 : Cond.classLink RX7 19 RX8 ∈ TB := tb_1 (List.mem_of_getElem? (i := 34) rfl) rfl
theorem cl_RX7_19 : Cond.classLink RX7 19 RX8 ∈ TB := wd_34
theorem wd_36 : Cond.classLink RX7 25 RX2 ∈ TB := tb_1 (List.mem_of_getElem? (i := 36) rfl) rfl
theorem cl_RX7_25 : Cond.classLink RX7 25 RX2 ∈ TB := wd_36
theorem wd_43 : Cond.classLink RX8 9 RX6 ∈ TB := tb_1 (List.mem_of_getElem? (i := 43) rfl) rfl
theorem cl_RX8_9 : Cond.classLink RX8 9 RX6 ∈ TB := wd_43
theorem wd_20 : Cond.classLink RL 7 RX9 ∈ TB := tb_1 (List.mem_of_getElem? (i := 20) rfl) rfl
theorem cl_RL_7 : Cond.classLink RL 7 RX9 ∈ TB := wd_20
theorem wd_1139 : Cond.classLink RL 10 RX10 ∈ TB := tb_5 (List.mem_of_getElem? (i := 179) rfl) rfl
theorem cl_RL_10 : Cond.classLink RL 10 RX10 ∈ TB := wd_1139
theorem wd_21 : Cond.instantiable RX9 6 ∈ TB := tb_1 (List.mem_of_getElem? (i := 21) rfl) rfl
theorem in_RX9 : Cond.instantiable RX9 6 ∈ TB := wd_21
theorem ii_RX9 : Cond.initialized RX9 ∈ TB := wd_1
theorem wd_260 : Cond.instantiable RX0 5 ∈ TB := tb_2 (List.mem_of_getElem? (i := 20) rfl) rfl
theorem in_RX0 : Cond.instantiable RX0 5 ∈ TB := wd_260
theorem ii_RX0 : Cond.initialized RX0 ∈ TB := wd_8
theorem wd_328 : Cond.instantiable RX1 4 ∈ TB := tb_2 (List.mem_of_getElem? (i := 88) rfl) rfl
theorem in_RX1 : Cond.instantiable RX1 4 ∈ TB := wd_328
theorem ii_RX1 : Cond.initialized RX1 ∈ TB := wd_9
theorem wd_136 : Cond.instantiable RX2 4 ∈ TB := tb_1 (List.mem_of_getElem? (i := 136) rfl) rfl
theorem in_RX2 : Cond.instantiable RX2 4 ∈ TB := wd_136
theorem ii_RX2 : Cond.initialized RX2 ∈ TB := wd_5
theorem wd_349 : Cond.instantiable RX3 5 ∈ TB := tb_2 (List.mem_of_getElem? (i := 109) rfl) rfl
theorem in_RX3 : Cond.instantiable RX3 5 ∈ TB := wd_349
theorem ii_RX3 : Cond.initialized RX3 ∈ TB := wd_10
theorem wd_202 : Cond.instantiable RX4 12 ∈ TB := tb_1 (List.mem_of_getElem? (i := 202) rfl) rfl
theorem in_RX4 : Cond.instantiable RX4 12 ∈ TB := wd_202
theorem ii_RX4 : Cond.initialized RX4 ∈ TB := wd_6
theorem wd_253 : Cond.instantiable RX5 9 ∈ TB := tb_2 (List.mem_of_getElem? (i := 13) rfl) rfl
theorem in_RX5 : Cond.instantiable RX5 9 ∈ TB := wd_253
theorem ii_RX5 : Cond.initialized RX5 ∈ TB := wd_7
theorem wd_44 : Cond.instantiable RX6 4 ∈ TB := tb_1 (List.mem_of_getElem? (i := 44) rfl) rfl
theorem in_RX6 : Cond.instantiable RX6 4 ∈ TB := wd_44
theorem ii_RX6 : Cond.initialized RX6 ∈ TB := wd_4
theorem wd_29 : Cond.instantiable RX7 8 ∈ TB := tb_1 (List.mem_of_getElem? (i := 29) rfl) rfl
theorem in_RX7 : Cond.instantiable RX7 8 ∈ TB := wd_29
theorem ii_RX7 : Cond.initialized RX7 ∈ TB := wd_2
theorem wd_38 : Cond.instantiable RX8 12 ∈ TB := tb_1 (List.mem_of_getElem? (i := 38) rfl) rfl
theorem in_RX8 : Cond.instantiable RX8 12 ∈ TB := wd_38
theorem ii_RX8 : Cond.initialized RX8 ∈ TB := wd_3
theorem wd_1140 : Cond.instantiable RX10 84 ∈ TB := tb_5 (List.mem_of_getElem? (i := 180) rfl) rfl
theorem in_RX10 : Cond.instantiable RX10 84 ∈ TB := wd_1140
theorem ii_RX10 : Cond.initialized RX10 ∈ TB := wd_11
theorem wd_800 : Cond.constant RJ6 265 1431655765 ∈ TB := tb_4 (List.mem_of_getElem? (i := 80) rfl) rfl
theorem kc_RJ6_265 : Cond.constant RJ6 265 1431655765 ∈ TB := wd_800
theorem wd_801 : Cond.constant RJ6 266 858993459 ∈ TB := tb_4 (List.mem_of_getElem? (i := 81) rfl) rfl
theorem kc_RJ6_266 : Cond.constant RJ6 266 858993459 ∈ TB := wd_801
theorem wd_802 : Cond.constant RJ6 267 252645135 ∈ TB := tb_4 (List.mem_of_getElem? (i := 82) rfl) rfl
theorem kc_RJ6_267 : Cond.constant RJ6 267 252645135 ∈ TB := wd_802
theorem wd_1092 : Cond.constantLong RX3 123 (-1) ∈ TB := tb_5 (List.mem_of_getElem? (i := 132) rfl) rfl
theorem kl_RX3_123 : Cond.constantLong RX3 123 (-1) ∈ TB := wd_1092
theorem wd_1487 : Cond.constantLong RX10 261 439720568179 ∈ TB := tb_7 (List.mem_of_getElem? (i := 47) rfl) rfl
theorem kl_RX10_261 : Cond.constantLong RX10 261 439720568179 ∈ TB := wd_1487
theorem wd_1496 : Cond.constantLong RX10 267 1685026670 ∈ TB := tb_7 (List.mem_of_getElem? (i := 56) rfl) rfl
theorem kl_RX10_267 : Cond.constantLong RX10 267 1685026670 ∈ TB := wd_1496
theorem wd_1497 : Cond.constantLong RX10 269 30064 ∈ TB := tb_7 (List.mem_of_getElem? (i := 57) rfl) rfl
theorem kl_RX10_269 : Cond.constantLong RX10 269 30064 ∈ TB := wd_1497
theorem wd_1470 : Cond.constantLong RX10 271 499967946343 ∈ TB := tb_7 (List.mem_of_getElem? (i := 30) rfl) rfl
theorem kl_RX10_271 : Cond.constantLong RX10 271 499967946343 ∈ TB := wd_1470
theorem wd_1471 : Cond.constantLong RX10 273 2002873452 ∈ TB := tb_7 (List.mem_of_getElem? (i := 31) rfl) rfl
theorem kl_RX10_273 : Cond.constantLong RX10 273 2002873452 ∈ TB := wd_1471
theorem wd_1472 : Cond.constantLong RX10 275 439788397413 ∈ TB := tb_7 (List.mem_of_getElem? (i := 32) rfl) rfl
theorem kl_RX10_275 : Cond.constantLong RX10 275 439788397413 ∈ TB := wd_1472
theorem wd_1473 : Cond.constantLong RX10 277 2003398244 ∈ TB := tb_7 (List.mem_of_getElem? (i := 33) rfl) rfl
theorem kl_RX10_277 : Cond.constantLong RX10 277 2003398244 ∈ TB := wd_1473
theorem wd_1474 : Cond.constantLong RX10 279 495740481637 ∈ TB := tb_7 (List.mem_of_getElem? (i := 34) rfl) rfl
theorem kl_RX10_279 : Cond.constantLong RX10 279 495740481637 ∈ TB := wd_1474
theorem wd_1475 : Cond.constantLong RX10 281 465557354085 ∈ TB := tb_7 (List.mem_of_getElem? (i := 35) rfl) rfl
theorem kl_RX10_281 : Cond.constantLong RX10 281 465557354085 ∈ TB := wd_1475
theorem wd_1476 : Cond.constantLong RX10 283 122468482507636 ∈ TB := tb_7 (List.mem_of_getElem? (i := 36) rfl) rfl
theorem kl_RX10_283 : Cond.constantLong RX10 283 122468482507636 ∈ TB := wd_1476
theorem wd_1477 : Cond.constantLong RX10 285 1668248436 ∈ TB := tb_7 (List.mem_of_getElem? (i := 37) rfl) rfl
theorem kl_RX10_285 : Cond.constantLong RX10 285 1668248436 ∈ TB := wd_1477
theorem wd_1478 : Cond.constantLong RX10 287 1735552887 ∈ TB := tb_7 (List.mem_of_getElem? (i := 38) rfl) rfl
theorem kl_RX10_287 : Cond.constantLong RX10 287 1735552887 ∈ TB := wd_1478
theorem wd_1441 : Cond.constantLong RX10 312 1936292453 ∈ TB := tb_7 (List.mem_of_getElem? (i := 1) rfl) rfl
theorem kl_RX10_312 : Cond.constantLong RX10 312 1936292453 ∈ TB := wd_1441
theorem wd_1526 : Cond.constantLong RX10 336 6709618 ∈ TB := tb_7 (List.mem_of_getElem? (i := 86) rfl) rfl
theorem kl_RX10_336 : Cond.constantLong RX10 336 6709618 ∈ TB := wd_1526
theorem wd_1527 : Cond.constantLong RX10 338 1718382455 ∈ TB := tb_7 (List.mem_of_getElem? (i := 87) rfl) rfl
theorem kl_RX10_338 : Cond.constantLong RX10 338 1718382455 ∈ TB := wd_1527
theorem wd_1528 : Cond.constantLong RX10 340 1717658469 ∈ TB := tb_7 (List.mem_of_getElem? (i := 88) rfl) rfl
theorem kl_RX10_340 : Cond.constantLong RX10 340 1717658469 ∈ TB := wd_1528
theorem wd_1533 : Cond.constantLong RX10 345 126896627347060 ∈ TB := tb_7 (List.mem_of_getElem? (i := 93) rfl) rfl
theorem kl_RX10_345 : Cond.constantLong RX10 345 126896627347060 ∈ TB := wd_1533
theorem wd_1534 : Cond.constantLong RX10 350 465491486066 ∈ TB := tb_7 (List.mem_of_getElem? (i := 94) rfl) rfl
theorem kl_RX10_350 : Cond.constantLong RX10 350 465491486066 ∈ TB := wd_1534
theorem wd_1535 : Cond.constantLong RX10 352 1751216749 ∈ TB := tb_7 (List.mem_of_getElem? (i := 95) rfl) rfl
theorem kl_RX10_352 : Cond.constantLong RX10 352 1751216749 ∈ TB := wd_1535
theorem wd_981 : Cond.constantLong RJ13 314 6148914691236517205 ∈ TB := tb_5 (List.mem_of_getElem? (i := 21) rfl) rfl
theorem kl_RJ13_314 : Cond.constantLong RJ13 314 6148914691236517205 ∈ TB := wd_981
theorem wd_982 : Cond.constantLong RJ13 316 3689348814741910323 ∈ TB := tb_5 (List.mem_of_getElem? (i := 22) rfl) rfl
theorem kl_RJ13_316 : Cond.constantLong RJ13 316 3689348814741910323 ∈ TB := wd_982
theorem wd_983 : Cond.constantLong RJ13 318 1085102592571150095 ∈ TB := tb_5 (List.mem_of_getElem? (i := 23) rfl) rfl
theorem kl_RJ13_318 : Cond.constantLong RJ13 318 1085102592571150095 ∈ TB := wd_983
theorem wd_71 : Cond.arrayClass .int ∈ TB := tb_1 (List.mem_of_getElem? (i := 71) rfl) rfl
theorem ac_int : Cond.arrayClass .int ∈ TB := wd_71
theorem wd_70 : Cond.arrayClass .byte ∈ TB := tb_1 (List.mem_of_getElem? (i := 70) rfl) rfl
theorem ac_byte : Cond.arrayClass .byte ∈ TB := wd_70
theorem wd_373 : Cond.arrayClass .long ∈ TB := tb_2 (List.mem_of_getElem? (i := 133) rfl) rfl
theorem ac_long : Cond.arrayClass .long ∈ TB := wd_373
theorem wd_347 : Cond.arrayClass .boolean ∈ TB := tb_2 (List.mem_of_getElem? (i := 107) rfl) rfl
theorem ac_boolean : Cond.arrayClass .boolean ∈ TB := wd_347
