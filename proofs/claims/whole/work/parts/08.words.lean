theorem tb_0 : ∀ w ∈ tables_1_1, w ∈ lw_tbl := fun w h => List.mem_append_right _ (List.mem_append_left _ h)
theorem tb_1 : ∀ w ∈ tables_1_2, w ∈ lw_tbl := fun w h => List.mem_append_right _ (List.mem_append_right _ (List.mem_append_left _ h))
theorem tb_2 : ∀ w ∈ tables_1_3, w ∈ lw_tbl := fun w h => List.mem_append_right _ (List.mem_append_right _ (List.mem_append_right _ (List.mem_append_left _ h)))
theorem tb_3 : ∀ w ∈ tables_1_4, w ∈ lw_tbl := fun w h => List.mem_append_right _ (List.mem_append_right _ (List.mem_append_right _ (List.mem_append_right _ (List.mem_append_left _ h))))
theorem tb_4 : ∀ w ∈ tables_1_5, w ∈ lw_tbl := fun w h => List.mem_append_right _ (List.mem_append_right _ (List.mem_append_right _ (List.mem_append_right _ (List.mem_append_right _ (List.mem_append_left _ h)))))
theorem tb_5 : ∀ w ∈ tables_1_6, w ∈ lw_tbl := fun w h => List.mem_append_right _ (List.mem_append_right _ (List.mem_append_right _ (List.mem_append_right _ (List.mem_append_right _ (List.mem_append_right _ (List.mem_append_left _ h))))))
theorem tb_6 : ∀ w ∈ tables_1_7, w ∈ lw_tbl := fun w h => List.mem_append_right _ (List.mem_append_right _ (List.mem_append_right _ (List.mem_append_right _ (List.mem_append_right _ (List.mem_append_right _ (List.mem_append_right _ (List.mem_append_left _ h)))))))
theorem tb_7 : ∀ w ∈ tables_1_8, w ∈ lw_tbl := fun w h => List.mem_append_right _ (List.mem_append_right _ (List.mem_append_right _ (List.mem_append_right _ (List.mem_append_right _ (List.mem_append_right _ (List.mem_append_right _ (List.mem_append_right _ (h))))))))
theorem wd_431 : Cond.laysFinal "UtilityBoard$Cloth" "UtilityBoard$Cloth" "number" "I" ∈ lw_ok := lw_ok_mem (tb_1 _ (List.mem_of_getElem? (i := 93) (by decide +kernel))) rfl
theorem iu_X0_0 : u_lay RX0 TX0 0 ∈ lw_ok := wd_431
theorem wd_433 : Cond.laysFinal "UtilityBoard$Cloth" "UtilityBoard$Cloth" "wear" "I" ∈ lw_ok := lw_ok_mem (tb_1 _ (List.mem_of_getElem? (i := 95) (by decide +kernel))) rfl
theorem iu_X0_1 : u_lay RX0 TX0 1 ∈ lw_ok := wd_433
theorem wd_435 : Cond.laysFinal "UtilityBoard$Cloth" "UtilityBoard$Cloth" "cost" "I" ∈ lw_ok := lw_ok_mem (tb_1 _ (List.mem_of_getElem? (i := 97) (by decide +kernel))) rfl
theorem iu_X0_2 : u_lay RX0 TX0 2 ∈ lw_ok := wd_435
theorem in_X0 : ∀ w ∈ u_ws RX0 TX0 3, w ∈ lw_ok := by
  intro w hw
  obtain ⟨k, hk, rfl⟩ := List.mem_map.mp hw
  have hk := List.mem_range.mp hk
  match k, hk with
  | 0, _ => exact iu_X0_0
  | 1, _ => exact iu_X0_1
  | 2, _ => exact iu_X0_2
  | k + 3, h => exact absurd h (by omega)
theorem wd_1158 : Cond.laysFinal "UtilityBoard$Docket" "UtilityBoard$Docket" "person" "I" ∈ lw_ok := lw_ok_mem (tb_4 _ (List.mem_of_getElem? (i := 100) (by decide +kernel))) rfl
theorem iu_X1_0 : u_lay RX1 TX1 0 ∈ lw_ok := wd_1158
theorem wd_1160 : Cond.laysFinal "UtilityBoard$Docket" "UtilityBoard$Docket" "thing" "I" ∈ lw_ok := lw_ok_mem (tb_4 _ (List.mem_of_getElem? (i := 102) (by decide +kernel))) rfl
theorem iu_X1_1 : u_lay RX1 TX1 1 ∈ lw_ok := wd_1160
theorem wd_1162 : Cond.laysFinal "UtilityBoard$Docket" "UtilityBoard$Docket" "since" "I" ∈ lw_ok := lw_ok_mem (tb_4 _ (List.mem_of_getElem? (i := 104) (by decide +kernel))) rfl
theorem iu_X1_2 : u_lay RX1 TX1 2 ∈ lw_ok := wd_1162
theorem wd_1164 : Cond.lays "UtilityBoard$Docket" "UtilityBoard$Docket" "weight" "I" ∈ lw_ok := lw_ok_mem (tb_4 _ (List.mem_of_getElem? (i := 106) (by decide +kernel))) rfl
theorem iu_X1_3 : u_lay RX1 TX1 3 ∈ lw_ok := wd_1164
theorem wd_1166 : Cond.lays "UtilityBoard$Docket" "UtilityBoard$Docket" "open" "Z" ∈ lw_ok := lw_ok_mem (tb_4 _ (List.mem_of_getElem? (i := 108) (by decide +kernel))) rfl
theorem iu_X1_4 : u_lay RX1 TX1 4 ∈ lw_ok := wd_1166
theorem in_X1 : ∀ w ∈ u_ws RX1 TX1 5, w ∈ lw_ok := by
  intro w hw
  obtain ⟨k, hk, rfl⟩ := List.mem_map.mp hw
  have hk := List.mem_range.mp hk
  match k, hk with
  | 0, _ => exact iu_X1_0
  | 1, _ => exact iu_X1_1
  | 2, _ => exact iu_X1_2
  | 3, _ => exact iu_X1_3
  | 4, _ => exact iu_X1_4
  | k + 5, h => exact absurd h (by omega)
theorem wd_523 : Cond.laysFinal "UtilityBoard$Drawing" "UtilityBoard$Drawing" "joints" "I" ∈ lw_ok := lw_ok_mem (tb_1 _ (List.mem_of_getElem? (i := 185) (by decide +kernel))) rfl
theorem iu_X2_0 : u_lay RX2 TX2 0 ∈ lw_ok := wd_523
theorem wd_525 : Cond.laysFinal "UtilityBoard$Drawing" "UtilityBoard$Drawing" "oneEnd" "[I" ∈ lw_ok := lw_ok_mem (tb_1 _ (List.mem_of_getElem? (i := 187) (by decide +kernel))) rfl
theorem iu_X2_1 : u_lay RX2 TX2 1 ∈ lw_ok := wd_525
theorem wd_527 : Cond.laysFinal "UtilityBoard$Drawing" "UtilityBoard$Drawing" "otherEnd" "[I" ∈ lw_ok := lw_ok_mem (tb_1 _ (List.mem_of_getElem? (i := 189) (by decide +kernel))) rfl
theorem iu_X2_2 : u_lay RX2 TX2 2 ∈ lw_ok := wd_527
theorem wd_529 : Cond.laysFinal "UtilityBoard$Drawing" "UtilityBoard$Drawing" "timbers" "[I" ∈ lw_ok := lw_ok_mem (tb_1 _ (List.mem_of_getElem? (i := 191) (by decide +kernel))) rfl
theorem iu_X2_3 : u_lay RX2 TX2 3 ∈ lw_ok := wd_529
theorem wd_531 : Cond.laysFinal "UtilityBoard$Drawing" "UtilityBoard$Drawing" "loadJoints" "[I" ∈ lw_ok := lw_ok_mem (tb_1 _ (List.mem_of_getElem? (i := 193) (by decide +kernel))) rfl
theorem iu_X2_4 : u_lay RX2 TX2 4 ∈ lw_ok := wd_531
theorem wd_533 : Cond.laysFinal "UtilityBoard$Drawing" "UtilityBoard$Drawing" "loadPounds" "[I" ∈ lw_ok := lw_ok_mem (tb_1 _ (List.mem_of_getElem? (i := 195) (by decide +kernel))) rfl
theorem iu_X2_5 : u_lay RX2 TX2 5 ∈ lw_ok := wd_533
theorem wd_535 : Cond.laysFinal "UtilityBoard$Drawing" "UtilityBoard$Drawing" "cutSticks" "[I" ∈ lw_ok := lw_ok_mem (tb_1 _ (List.mem_of_getElem? (i := 197) (by decide +kernel))) rfl
theorem iu_X2_6 : u_lay RX2 TX2 6 ∈ lw_ok := wd_535
theorem wd_537 : Cond.laysFinal "UtilityBoard$Drawing" "UtilityBoard$Drawing" "cutNeeds" "[I" ∈ lw_ok := lw_ok_mem (tb_1 _ (List.mem_of_getElem? (i := 199) (by decide +kernel))) rfl
theorem iu_X2_7 : u_lay RX2 TX2 7 ∈ lw_ok := wd_537
theorem wd_539 : Cond.laysFinal "UtilityBoard$Drawing" "UtilityBoard$Drawing" "cutSpare" "[I" ∈ lw_ok := lw_ok_mem (tb_1 _ (List.mem_of_getElem? (i := 201) (by decide +kernel))) rfl
theorem iu_X2_8 : u_lay RX2 TX2 8 ∈ lw_ok := wd_539
theorem wd_541 : Cond.laysFinal "UtilityBoard$Drawing" "UtilityBoard$Drawing" "trial" "[I" ∈ lw_ok := lw_ok_mem (tb_1 _ (List.mem_of_getElem? (i := 203) (by decide +kernel))) rfl
theorem iu_X2_9 : u_lay RX2 TX2 9 ∈ lw_ok := wd_541
theorem wd_543 : Cond.laysFinal "UtilityBoard$Drawing" "UtilityBoard$Drawing" "best" "[I" ∈ lw_ok := lw_ok_mem (tb_1 _ (List.mem_of_getElem? (i := 205) (by decide +kernel))) rfl
theorem iu_X2_10 : u_lay RX2 TX2 10 ∈ lw_ok := wd_543
theorem wd_545 : Cond.lays "UtilityBoard$Drawing" "UtilityBoard$Drawing" "sticks" "I" ∈ lw_ok := lw_ok_mem (tb_1 _ (List.mem_of_getElem? (i := 207) (by decide +kernel))) rfl
theorem iu_X2_11 : u_lay RX2 TX2 11 ∈ lw_ok := wd_545
theorem wd_547 : Cond.lays "UtilityBoard$Drawing" "UtilityBoard$Drawing" "loads" "I" ∈ lw_ok := lw_ok_mem (tb_1 _ (List.mem_of_getElem? (i := 209) (by decide +kernel))) rfl
theorem iu_X2_12 : u_lay RX2 TX2 12 ∈ lw_ok := wd_547
theorem wd_549 : Cond.lays "UtilityBoard$Drawing" "UtilityBoard$Drawing" "cuts" "I" ∈ lw_ok := lw_ok_mem (tb_1 _ (List.mem_of_getElem? (i := 211) (by decide +kernel))) rfl
theorem iu_X2_13 : u_lay RX2 TX2 13 ∈ lw_ok := wd_549
theorem wd_551 : Cond.lays "UtilityBoard$Drawing" "UtilityBoard$Drawing" "bestInches" "I" ∈ lw_ok := lw_ok_mem (tb_1 _ (List.mem_of_getElem? (i := 213) (by decide +kernel))) rfl
theorem iu_X2_14 : u_lay RX2 TX2 14 ∈ lw_ok := wd_551
theorem wd_553 : Cond.lays "UtilityBoard$Drawing" "UtilityBoard$Drawing" "searched" "Z" ∈ lw_ok := lw_ok_mem (tb_1 _ (List.mem_of_getElem? (i := 215) (by decide +kernel))) rfl
theorem iu_X2_15 : u_lay RX2 TX2 15 ∈ lw_ok := wd_553
theorem in_X2 : ∀ w ∈ u_ws RX2 TX2 16, w ∈ lw_ok := by
  intro w hw
  obtain ⟨k, hk, rfl⟩ := List.mem_map.mp hw
  have hk := List.mem_range.mp hk
  match k, hk with
  | 0, _ => exact iu_X2_0
  | 1, _ => exact iu_X2_1
  | 2, _ => exact iu_X2_2
  | 3, _ => exact iu_X2_3
  | 4, _ => exact iu_X2_4
  | 5, _ => exact iu_X2_5
  | 6, _ => exact iu_X2_6
  | 7, _ => exact iu_X2_7
  | 8, _ => exact iu_X2_8
  | 9, _ => exact iu_X2_9
  | 10, _ => exact iu_X2_10
  | 11, _ => exact iu_X2_11
  | 12, _ => exact iu_X2_12
  | 13, _ => exact iu_X2_13
  | 14, _ => exact iu_X2_14
  | 15, _ => exact iu_X2_15
  | k + 16, h => exact absurd h (by omega)
theorem wd_1087 : Cond.laysFinal "UtilityBoard$Entry" "UtilityBoard$Entry" "of" "I" ∈ lw_ok := lw_ok_mem (tb_4 _ (List.mem_of_getElem? (i := 29) (by decide +kernel))) rfl
theorem iu_X3_0 : u_lay RX3 TX3 0 ∈ lw_ok := wd_1087
theorem wd_1089 : Cond.laysFinal "UtilityBoard$Entry" "UtilityBoard$Entry" "by" "I" ∈ lw_ok := lw_ok_mem (tb_4 _ (List.mem_of_getElem? (i := 31) (by decide +kernel))) rfl
theorem iu_X3_1 : u_lay RX3 TX3 1 ∈ lw_ok := wd_1089
theorem wd_1091 : Cond.laysFinal "UtilityBoard$Entry" "UtilityBoard$Entry" "week" "I" ∈ lw_ok := lw_ok_mem (tb_4 _ (List.mem_of_getElem? (i := 33) (by decide +kernel))) rfl
theorem iu_X3_2 : u_lay RX3 TX3 2 ∈ lw_ok := wd_1091
theorem wd_1093 : Cond.laysFinal "UtilityBoard$Entry" "UtilityBoard$Entry" "n" "I" ∈ lw_ok := lw_ok_mem (tb_4 _ (List.mem_of_getElem? (i := 35) (by decide +kernel))) rfl
theorem iu_X3_3 : u_lay RX3 TX3 3 ∈ lw_ok := wd_1093
theorem in_X3 : ∀ w ∈ u_ws RX3 TX3 4, w ∈ lw_ok := by
  intro w hw
  obtain ⟨k, hk, rfl⟩ := List.mem_map.mp hw
  have hk := List.mem_range.mp hk
  match k, hk with
  | 0, _ => exact iu_X3_0
  | 1, _ => exact iu_X3_1
  | 2, _ => exact iu_X3_2
  | 3, _ => exact iu_X3_3
  | k + 4, h => exact absurd h (by omega)
theorem wd_226 : Cond.laysFinal "UtilityBoard$Law" "UtilityBoard$Law" "orders" "Ljava/util/ArrayList;" ∈ lw_ok := lw_ok_mem (tb_0 _ (List.mem_of_getElem? (i := 128) (by decide +kernel))) rfl
theorem iu_X4_0 : u_lay RX4 TX4 0 ∈ lw_ok := wd_226
theorem wd_228 : Cond.laysFinal "UtilityBoard$Law" "UtilityBoard$Law" "counting" "[I" ∈ lw_ok := lw_ok_mem (tb_0 _ (List.mem_of_getElem? (i := 130) (by decide +kernel))) rfl
theorem iu_X4_1 : u_lay RX4 TX4 1 ∈ lw_ok := wd_228
theorem wd_230 : Cond.laysFinal "UtilityBoard$Law" "UtilityBoard$Law" "letters" "[I" ∈ lw_ok := lw_ok_mem (tb_0 _ (List.mem_of_getElem? (i := 132) (by decide +kernel))) rfl
theorem iu_X4_2 : u_lay RX4 TX4 2 ∈ lw_ok := wd_230
theorem wd_232 : Cond.laysFinal "UtilityBoard$Law" "UtilityBoard$Law" "stack" "[I" ∈ lw_ok := lw_ok_mem (tb_0 _ (List.mem_of_getElem? (i := 134) (by decide +kernel))) rfl
theorem iu_X4_3 : u_lay RX4 TX4 3 ∈ lw_ok := wd_232
theorem wd_234 : Cond.lays "UtilityBoard$Law" "UtilityBoard$Law" "top" "I" ∈ lw_ok := lw_ok_mem (tb_0 _ (List.mem_of_getElem? (i := 136) (by decide +kernel))) rfl
theorem iu_X4_4 : u_lay RX4 TX4 4 ∈ lw_ok := wd_234
theorem wd_236 : Cond.lays "UtilityBoard$Law" "UtilityBoard$Law" "resume" "I" ∈ lw_ok := lw_ok_mem (tb_0 _ (List.mem_of_getElem? (i := 138) (by decide +kernel))) rfl
theorem iu_X4_5 : u_lay RX4 TX4 5 ∈ lw_ok := wd_236
theorem wd_238 : Cond.lays "UtilityBoard$Law" "UtilityBoard$Law" "truth" "Z" ∈ lw_ok := lw_ok_mem (tb_0 _ (List.mem_of_getElem? (i := 140) (by decide +kernel))) rfl
theorem iu_X4_6 : u_lay RX4 TX4 6 ∈ lw_ok := wd_238
theorem wd_240 : Cond.lays "UtilityBoard$Law" "UtilityBoard$Law" "refused" "Z" ∈ lw_ok := lw_ok_mem (tb_0 _ (List.mem_of_getElem? (i := 142) (by decide +kernel))) rfl
theorem iu_X4_7 : u_lay RX4 TX4 7 ∈ lw_ok := wd_240
theorem in_X4 : ∀ w ∈ u_ws RX4 TX4 8, w ∈ lw_ok := by
  intro w hw
  obtain ⟨k, hk, rfl⟩ := List.mem_map.mp hw
  have hk := List.mem_range.mp hk
  match k, hk with
  | 0, _ => exact iu_X4_0
  | 1, _ => exact iu_X4_1
  | 2, _ => exact iu_X4_2
  | 3, _ => exact iu_X4_3
  | 4, _ => exact iu_X4_4
  | 5, _ => exact iu_X4_5
  | 6, _ => exact iu_X4_6
  | 7, _ => exact iu_X4_7
  | k + 8, h => exact absurd h (by omega)
theorem wd_259 : Cond.laysFinal "UtilityBoard$Layout" "UtilityBoard$Layout" "widthOfSet" "[I" ∈ lw_ok := lw_ok_mem (tb_0 _ (List.mem_of_getElem? (i := 161) (by decide +kernel))) rfl
theorem iu_X5_0 : u_lay RX5 TX5 0 ∈ lw_ok := wd_259
theorem wd_261 : Cond.laysFinal "UtilityBoard$Layout" "UtilityBoard$Layout" "tallestOfSet" "[I" ∈ lw_ok := lw_ok_mem (tb_0 _ (List.mem_of_getElem? (i := 163) (by decide +kernel))) rfl
theorem iu_X5_1 : u_lay RX5 TX5 1 ∈ lw_ok := wd_261
theorem wd_263 : Cond.laysFinal "UtilityBoard$Layout" "UtilityBoard$Layout" "shortestOfSet" "[I" ∈ lw_ok := lw_ok_mem (tb_0 _ (List.mem_of_getElem? (i := 165) (by decide +kernel))) rfl
theorem iu_X5_2 : u_lay RX5 TX5 2 ∈ lw_ok := wd_263
theorem wd_265 : Cond.laysFinal "UtilityBoard$Layout" "UtilityBoard$Layout" "row" "[I" ∈ lw_ok := lw_ok_mem (tb_0 _ (List.mem_of_getElem? (i := 167) (by decide +kernel))) rfl
theorem iu_X5_3 : u_lay RX5 TX5 3 ∈ lw_ok := wd_265
theorem wd_267 : Cond.lays "UtilityBoard$Layout" "UtilityBoard$Layout" "shortest" "I" ∈ lw_ok := lw_ok_mem (tb_0 _ (List.mem_of_getElem? (i := 169) (by decide +kernel))) rfl
theorem iu_X5_4 : u_lay RX5 TX5 4 ∈ lw_ok := wd_267
theorem wd_269 : Cond.lays "UtilityBoard$Layout" "UtilityBoard$Layout" "coat" "LUtilityBoard$Thing;" ∈ lw_ok := lw_ok_mem (tb_0 _ (List.mem_of_getElem? (i := 171) (by decide +kernel))) rfl
theorem iu_X5_5 : u_lay RX5 TX5 5 ∈ lw_ok := wd_269
theorem wd_271 : Cond.lays "UtilityBoard$Layout" "UtilityBoard$Layout" "width" "I" ∈ lw_ok := lw_ok_mem (tb_0 _ (List.mem_of_getElem? (i := 173) (by decide +kernel))) rfl
theorem iu_X5_6 : u_lay RX5 TX5 6 ∈ lw_ok := wd_271
theorem wd_273 : Cond.lays "UtilityBoard$Layout" "UtilityBoard$Layout" "pieces" "I" ∈ lw_ok := lw_ok_mem (tb_0 _ (List.mem_of_getElem? (i := 175) (by decide +kernel))) rfl
theorem iu_X5_7 : u_lay RX5 TX5 7 ∈ lw_ok := wd_273
theorem in_X5 : ∀ w ∈ u_ws RX5 TX5 8, w ∈ lw_ok := by
  intro w hw
  obtain ⟨k, hk, rfl⟩ := List.mem_map.mp hw
  have hk := List.mem_range.mp hk
  match k, hk with
  | 0, _ => exact iu_X5_0
  | 1, _ => exact iu_X5_1
  | 2, _ => exact iu_X5_2
  | 3, _ => exact iu_X5_3
  | 4, _ => exact iu_X5_4
  | 5, _ => exact iu_X5_5
  | 6, _ => exact iu_X5_6
  | 7, _ => exact iu_X5_7
  | k + 8, h => exact absurd h (by omega)
theorem wd_788 : Cond.laysFinal "UtilityBoard$Maker" "UtilityBoard$Maker" "town" "I" ∈ lw_ok := lw_ok_mem (tb_2 _ (List.mem_of_getElem? (i := 210) (by decide +kernel))) rfl
theorem iu_X6_0 : u_lay RX6 TX6 0 ∈ lw_ok := wd_788
theorem wd_790 : Cond.laysFinal "UtilityBoard$Maker" "UtilityBoard$Maker" "plant" "I" ∈ lw_ok := lw_ok_mem (tb_2 _ (List.mem_of_getElem? (i := 212) (by decide +kernel))) rfl
theorem iu_X6_1 : u_lay RX6 TX6 1 ∈ lw_ok := wd_790
theorem wd_792 : Cond.laysFinal "UtilityBoard$Maker" "UtilityBoard$Maker" "hands" "I" ∈ lw_ok := lw_ok_mem (tb_2 _ (List.mem_of_getElem? (i := 214) (by decide +kernel))) rfl
theorem iu_X6_2 : u_lay RX6 TX6 2 ∈ lw_ok := wd_792
theorem wd_794 : Cond.laysFinal "UtilityBoard$Maker" "UtilityBoard$Maker" "rate" "I" ∈ lw_ok := lw_ok_mem (tb_2 _ (List.mem_of_getElem? (i := 216) (by decide +kernel))) rfl
theorem iu_X6_3 : u_lay RX6 TX6 3 ∈ lw_ok := wd_794
theorem wd_796 : Cond.laysFinal "UtilityBoard$Maker" "UtilityBoard$Maker" "hire" "I" ∈ lw_ok := lw_ok_mem (tb_2 _ (List.mem_of_getElem? (i := 218) (by decide +kernel))) rfl
theorem iu_X6_4 : u_lay RX6 TX6 4 ∈ lw_ok := wd_796
theorem wd_798 : Cond.laysFinal "UtilityBoard$Maker" "UtilityBoard$Maker" "yards" "[I" ∈ lw_ok := lw_ok_mem (tb_2 _ (List.mem_of_getElem? (i := 220) (by decide +kernel))) rfl
theorem iu_X6_5 : u_lay RX6 TX6 5 ∈ lw_ok := wd_798
theorem wd_800 : Cond.lays "UtilityBoard$Maker" "UtilityBoard$Maker" "named" "Z" ∈ lw_ok := lw_ok_mem (tb_2 _ (List.mem_of_getElem? (i := 222) (by decide +kernel))) rfl
theorem iu_X6_6 : u_lay RX6 TX6 6 ∈ lw_ok := wd_800
theorem wd_802 : Cond.lays "UtilityBoard$Maker" "UtilityBoard$Maker" "made" "I" ∈ lw_ok := lw_ok_mem (tb_2 _ (List.mem_of_getElem? (i := 224) (by decide +kernel))) rfl
theorem iu_X6_7 : u_lay RX6 TX6 7 ∈ lw_ok := wd_802
theorem in_X6 : ∀ w ∈ u_ws RX6 TX6 8, w ∈ lw_ok := by
  intro w hw
  obtain ⟨k, hk, rfl⟩ := List.mem_map.mp hw
  have hk := List.mem_range.mp hk
  match k, hk with
  | 0, _ => exact iu_X6_0
  | 1, _ => exact iu_X6_1
  | 2, _ => exact iu_X6_2
  | 3, _ => exact iu_X6_3
  | 4, _ => exact iu_X6_4
  | 5, _ => exact iu_X6_5
  | 6, _ => exact iu_X6_6
  | 7, _ => exact iu_X6_7
  | k + 8, h => exact absurd h (by omega)
theorem wd_1009 : Cond.laysFinal "UtilityBoard$Order" "UtilityBoard$Order" "from" "I" ∈ lw_ok := lw_ok_mem (tb_3 _ (List.mem_of_getElem? (i := 191) (by decide +kernel))) rfl
theorem iu_X7_0 : u_lay RX7 TX7 0 ∈ lw_ok := wd_1009
theorem wd_1011 : Cond.laysFinal "UtilityBoard$Order" "UtilityBoard$Order" "to" "I" ∈ lw_ok := lw_ok_mem (tb_3 _ (List.mem_of_getElem? (i := 193) (by decide +kernel))) rfl
theorem iu_X7_1 : u_lay RX7 TX7 1 ∈ lw_ok := wd_1011
theorem wd_1013 : Cond.laysFinal "UtilityBoard$Order" "UtilityBoard$Order" "told" "I" ∈ lw_ok := lw_ok_mem (tb_3 _ (List.mem_of_getElem? (i := 195) (by decide +kernel))) rfl
theorem iu_X7_2 : u_lay RX7 TX7 2 ∈ lw_ok := wd_1013
theorem wd_1015 : Cond.laysFinal "UtilityBoard$Order" "UtilityBoard$Order" "clauses" "I" ∈ lw_ok := lw_ok_mem (tb_3 _ (List.mem_of_getElem? (i := 197) (by decide +kernel))) rfl
theorem iu_X7_3 : u_lay RX7 TX7 3 ∈ lw_ok := wd_1015
theorem wd_1017 : Cond.laysFinal "UtilityBoard$Order" "UtilityBoard$Order" "letters" "[I" ∈ lw_ok := lw_ok_mem (tb_3 _ (List.mem_of_getElem? (i := 199) (by decide +kernel))) rfl
theorem iu_X7_4 : u_lay RX7 TX7 4 ∈ lw_ok := wd_1017
theorem wd_1019 : Cond.laysFinal "UtilityBoard$Order" "UtilityBoard$Order" "numbers" "[I" ∈ lw_ok := lw_ok_mem (tb_3 _ (List.mem_of_getElem? (i := 201) (by decide +kernel))) rfl
theorem iu_X7_5 : u_lay RX7 TX7 5 ∈ lw_ok := wd_1019
theorem wd_1021 : Cond.laysFinal "UtilityBoard$Order" "UtilityBoard$Order" "struck" "[I" ∈ lw_ok := lw_ok_mem (tb_3 _ (List.mem_of_getElem? (i := 203) (by decide +kernel))) rfl
theorem iu_X7_6 : u_lay RX7 TX7 6 ∈ lw_ok := wd_1021
theorem wd_1023 : Cond.laysFinal "UtilityBoard$Order" "UtilityBoard$Order" "ends" "[I" ∈ lw_ok := lw_ok_mem (tb_3 _ (List.mem_of_getElem? (i := 205) (by decide +kernel))) rfl
theorem iu_X7_7 : u_lay RX7 TX7 7 ∈ lw_ok := wd_1023
theorem wd_1025 : Cond.laysFinal "UtilityBoard$Order" "UtilityBoard$Order" "code" "[I" ∈ lw_ok := lw_ok_mem (tb_3 _ (List.mem_of_getElem? (i := 207) (by decide +kernel))) rfl
theorem iu_X7_8 : u_lay RX7 TX7 8 ∈ lw_ok := wd_1025
theorem in_X7 : ∀ w ∈ u_ws RX7 TX7 9, w ∈ lw_ok := by
  intro w hw
  obtain ⟨k, hk, rfl⟩ := List.mem_map.mp hw
  have hk := List.mem_range.mp hk
  match k, hk with
  | 0, _ => exact iu_X7_0
  | 1, _ => exact iu_X7_1
  | 2, _ => exact iu_X7_2
  | 3, _ => exact iu_X7_3
  | 4, _ => exact iu_X7_4
  | 5, _ => exact iu_X7_5
  | 6, _ => exact iu_X7_6
  | 7, _ => exact iu_X7_7
  | 8, _ => exact iu_X7_8
  | k + 9, h => exact absurd h (by omega)
theorem wd_1109 : Cond.lays "UtilityBoard$Person" "UtilityBoard$Person" "points" "I" ∈ lw_ok := lw_ok_mem (tb_4 _ (List.mem_of_getElem? (i := 51) (by decide +kernel))) rfl
theorem iu_X8_0 : u_lay RX8 TX8 0 ∈ lw_ok := wd_1109
theorem wd_1111 : Cond.lays "UtilityBoard$Person" "UtilityBoard$Person" "purse" "I" ∈ lw_ok := lw_ok_mem (tb_4 _ (List.mem_of_getElem? (i := 53) (by decide +kernel))) rfl
theorem iu_X8_1 : u_lay RX8 TX8 1 ∈ lw_ok := wd_1111
theorem in_X8 : ∀ w ∈ u_ws RX8 TX8 2, w ∈ lw_ok := by
  intro w hw
  obtain ⟨k, hk, rfl⟩ := List.mem_map.mp hw
  have hk := List.mem_range.mp hk
  match k, hk with
  | 0, _ => exact iu_X8_0
  | 1, _ => exact iu_X8_1
  | k + 2, h => exact absurd h (by omega)
theorem wd_184 : Cond.laysFinal "UtilityBoard$Reader" "UtilityBoard$Reader" "letters" "[I" ∈ lw_ok := lw_ok_mem (tb_0 _ (List.mem_of_getElem? (i := 86) (by decide +kernel))) rfl
theorem iu_X9_0 : u_lay RX9 TX9 0 ∈ lw_ok := wd_184
theorem wd_186 : Cond.laysFinal "UtilityBoard$Reader" "UtilityBoard$Reader" "numbers" "[I" ∈ lw_ok := lw_ok_mem (tb_0 _ (List.mem_of_getElem? (i := 88) (by decide +kernel))) rfl
theorem iu_X9_1 : u_lay RX9 TX9 1 ∈ lw_ok := wd_186
theorem wd_188 : Cond.laysFinal "UtilityBoard$Reader" "UtilityBoard$Reader" "struck" "[I" ∈ lw_ok := lw_ok_mem (tb_0 _ (List.mem_of_getElem? (i := 90) (by decide +kernel))) rfl
theorem iu_X9_2 : u_lay RX9 TX9 2 ∈ lw_ok := wd_188
theorem wd_190 : Cond.laysFinal "UtilityBoard$Reader" "UtilityBoard$Reader" "ends" "[I" ∈ lw_ok := lw_ok_mem (tb_0 _ (List.mem_of_getElem? (i := 92) (by decide +kernel))) rfl
theorem iu_X9_3 : u_lay RX9 TX9 3 ∈ lw_ok := wd_190
theorem wd_192 : Cond.laysFinal "UtilityBoard$Reader" "UtilityBoard$Reader" "code" "[I" ∈ lw_ok := lw_ok_mem (tb_0 _ (List.mem_of_getElem? (i := 94) (by decide +kernel))) rfl
theorem iu_X9_4 : u_lay RX9 TX9 4 ∈ lw_ok := wd_192
theorem wd_194 : Cond.lays "UtilityBoard$Reader" "UtilityBoard$Reader" "clauses" "I" ∈ lw_ok := lw_ok_mem (tb_0 _ (List.mem_of_getElem? (i := 96) (by decide +kernel))) rfl
theorem iu_X9_5 : u_lay RX9 TX9 5 ∈ lw_ok := wd_194
theorem wd_196 : Cond.lays "UtilityBoard$Reader" "UtilityBoard$Reader" "size" "I" ∈ lw_ok := lw_ok_mem (tb_0 _ (List.mem_of_getElem? (i := 98) (by decide +kernel))) rfl
theorem iu_X9_6 : u_lay RX9 TX9 6 ∈ lw_ok := wd_196
theorem wd_198 : Cond.lays "UtilityBoard$Reader" "UtilityBoard$Reader" "text" "[B" ∈ lw_ok := lw_ok_mem (tb_0 _ (List.mem_of_getElem? (i := 100) (by decide +kernel))) rfl
theorem iu_X9_7 : u_lay RX9 TX9 7 ∈ lw_ok := wd_198
theorem wd_200 : Cond.lays "UtilityBoard$Reader" "UtilityBoard$Reader" "end" "I" ∈ lw_ok := lw_ok_mem (tb_0 _ (List.mem_of_getElem? (i := 102) (by decide +kernel))) rfl
theorem iu_X9_8 : u_lay RX9 TX9 8 ∈ lw_ok := wd_200
theorem wd_202 : Cond.lays "UtilityBoard$Reader" "UtilityBoard$Reader" "at" "I" ∈ lw_ok := lw_ok_mem (tb_0 _ (List.mem_of_getElem? (i := 104) (by decide +kernel))) rfl
theorem iu_X9_9 : u_lay RX9 TX9 9 ∈ lw_ok := wd_202
theorem wd_204 : Cond.lays "UtilityBoard$Reader" "UtilityBoard$Reader" "fault" "I" ∈ lw_ok := lw_ok_mem (tb_0 _ (List.mem_of_getElem? (i := 106) (by decide +kernel))) rfl
theorem iu_X9_10 : u_lay RX9 TX9 10 ∈ lw_ok := wd_204
theorem in_X9 : ∀ w ∈ u_ws RX9 TX9 11, w ∈ lw_ok := by
  intro w hw
  obtain ⟨k, hk, rfl⟩ := List.mem_map.mp hw
  have hk := List.mem_range.mp hk
  match k, hk with
  | 0, _ => exact iu_X9_0
  | 1, _ => exact iu_X9_1
  | 2, _ => exact iu_X9_2
  | 3, _ => exact iu_X9_3
  | 4, _ => exact iu_X9_4
  | 5, _ => exact iu_X9_5
  | 6, _ => exact iu_X9_6
  | 7, _ => exact iu_X9_7
  | 8, _ => exact iu_X9_8
  | 9, _ => exact iu_X9_9
  | 10, _ => exact iu_X9_10
  | k + 11, h => exact absurd h (by omega)
theorem wd_674 : Cond.laysFinal "UtilityBoard$Thing" "UtilityBoard$Thing" "kind" "I" ∈ lw_ok := lw_ok_mem (tb_2 _ (List.mem_of_getElem? (i := 96) (by decide +kernel))) rfl
theorem iu_X10_0 : u_lay RX10 TX10 0 ∈ lw_ok := wd_674
theorem wd_676 : Cond.laysFinal "UtilityBoard$Thing" "UtilityBoard$Thing" "of" "I" ∈ lw_ok := lw_ok_mem (tb_2 _ (List.mem_of_getElem? (i := 98) (by decide +kernel))) rfl
theorem iu_X10_1 : u_lay RX10 TX10 1 ∈ lw_ok := wd_676
theorem wd_678 : Cond.laysFinal "UtilityBoard$Thing" "UtilityBoard$Thing" "cloth" "LUtilityBoard$Cloth;" ∈ lw_ok := lw_ok_mem (tb_2 _ (List.mem_of_getElem? (i := 100) (by decide +kernel))) rfl
theorem iu_X10_2 : u_lay RX10 TX10 2 ∈ lw_ok := wd_678
theorem wd_680 : Cond.laysFinal "UtilityBoard$Thing" "UtilityBoard$Thing" "pockets" "I" ∈ lw_ok := lw_ok_mem (tb_2 _ (List.mem_of_getElem? (i := 102) (by decide +kernel))) rfl
theorem iu_X10_3 : u_lay RX10 TX10 3 ∈ lw_ok := wd_680
theorem wd_682 : Cond.laysFinal "UtilityBoard$Thing" "UtilityBoard$Thing" "inches" "I" ∈ lw_ok := lw_ok_mem (tb_2 _ (List.mem_of_getElem? (i := 104) (by decide +kernel))) rfl
theorem iu_X10_4 : u_lay RX10 TX10 4 ∈ lw_ok := wd_682
theorem wd_684 : Cond.laysFinal "UtilityBoard$Thing" "UtilityBoard$Thing" "shops" "[I" ∈ lw_ok := lw_ok_mem (tb_2 _ (List.mem_of_getElem? (i := 106) (by decide +kernel))) rfl
theorem iu_X10_5 : u_lay RX10 TX10 5 ∈ lw_ok := wd_684
theorem wd_686 : Cond.laysFinal "UtilityBoard$Thing" "UtilityBoard$Thing" "lengths" "[I" ∈ lw_ok := lw_ok_mem (tb_2 _ (List.mem_of_getElem? (i := 108) (by decide +kernel))) rfl
theorem iu_X10_6 : u_lay RX10 TX10 6 ∈ lw_ok := wd_686
theorem wd_688 : Cond.laysFinal "UtilityBoard$Thing" "UtilityBoard$Thing" "widths" "[I" ∈ lw_ok := lw_ok_mem (tb_2 _ (List.mem_of_getElem? (i := 110) (by decide +kernel))) rfl
theorem iu_X10_7 : u_lay RX10 TX10 7 ∈ lw_ok := wd_688
theorem wd_690 : Cond.lays "UtilityBoard$Thing" "UtilityBoard$Thing" "pieces" "I" ∈ lw_ok := lw_ok_mem (tb_2 _ (List.mem_of_getElem? (i := 112) (by decide +kernel))) rfl
theorem iu_X10_8 : u_lay RX10 TX10 8 ∈ lw_ok := wd_690
theorem wd_692 : Cond.lays "UtilityBoard$Thing" "UtilityBoard$Thing" "price" "I" ∈ lw_ok := lw_ok_mem (tb_2 _ (List.mem_of_getElem? (i := 114) (by decide +kernel))) rfl
theorem iu_X10_9 : u_lay RX10 TX10 9 ∈ lw_ok := wd_692
theorem in_X10 : ∀ w ∈ u_ws RX10 TX10 10, w ∈ lw_ok := by
  intro w hw
  obtain ⟨k, hk, rfl⟩ := List.mem_map.mp hw
  have hk := List.mem_range.mp hk
  match k, hk with
  | 0, _ => exact iu_X10_0
  | 1, _ => exact iu_X10_1
  | 2, _ => exact iu_X10_2
  | 3, _ => exact iu_X10_3
  | 4, _ => exact iu_X10_4
  | 5, _ => exact iu_X10_5
  | 6, _ => exact iu_X10_6
  | 7, _ => exact iu_X10_7
  | 8, _ => exact iu_X10_8
  | 9, _ => exact iu_X10_9
  | k + 10, h => exact absurd h (by omega)
theorem wd_293 : Cond.lays "UtilityBoard" "UtilityBoard" "now" "I" ∈ lw_ok := lw_ok_mem (tb_0 _ (List.mem_of_getElem? (i := 195) (by decide +kernel))) rfl
theorem iu_X11_0 : u_lay RX11 TX11 0 ∈ lw_ok := wd_293
theorem wd_295 : Cond.lays "UtilityBoard" "UtilityBoard" "turnsAWeek" "I" ∈ lw_ok := lw_ok_mem (tb_0 _ (List.mem_of_getElem? (i := 197) (by decide +kernel))) rfl
theorem iu_X11_1 : u_lay RX11 TX11 1 ∈ lw_ok := wd_295
theorem wd_297 : Cond.laysFinal "UtilityBoard" "UtilityBoard" "cloths" "Ljava/util/ArrayList;" ∈ lw_ok := lw_ok_mem (tb_0 _ (List.mem_of_getElem? (i := 199) (by decide +kernel))) rfl
theorem iu_X11_2 : u_lay RX11 TX11 2 ∈ lw_ok := wd_297
theorem wd_299 : Cond.laysFinal "UtilityBoard" "UtilityBoard" "drawings" "Ljava/util/ArrayList;" ∈ lw_ok := lw_ok_mem (tb_0 _ (List.mem_of_getElem? (i := 201) (by decide +kernel))) rfl
theorem iu_X11_3 : u_lay RX11 TX11 3 ∈ lw_ok := wd_299
theorem wd_301 : Cond.laysFinal "UtilityBoard" "UtilityBoard" "things" "Ljava/util/ArrayList;" ∈ lw_ok := lw_ok_mem (tb_0 _ (List.mem_of_getElem? (i := 203) (by decide +kernel))) rfl
theorem iu_X11_4 : u_lay RX11 TX11 4 ∈ lw_ok := wd_301
theorem wd_303 : Cond.laysFinal "UtilityBoard" "UtilityBoard" "makers" "Ljava/util/ArrayList;" ∈ lw_ok := lw_ok_mem (tb_0 _ (List.mem_of_getElem? (i := 205) (by decide +kernel))) rfl
theorem iu_X11_5 : u_lay RX11 TX11 5 ∈ lw_ok := wd_303
theorem wd_305 : Cond.laysFinal "UtilityBoard" "UtilityBoard" "byRate" "[I" ∈ lw_ok := lw_ok_mem (tb_0 _ (List.mem_of_getElem? (i := 207) (by decide +kernel))) rfl
theorem iu_X11_6 : u_lay RX11 TX11 6 ∈ lw_ok := wd_305
theorem wd_307 : Cond.laysFinal "UtilityBoard" "UtilityBoard" "persons" "Ljava/util/ArrayList;" ∈ lw_ok := lw_ok_mem (tb_0 _ (List.mem_of_getElem? (i := 209) (by decide +kernel))) rfl
theorem iu_X11_7 : u_lay RX11 TX11 7 ∈ lw_ok := wd_307
theorem wd_309 : Cond.laysFinal "UtilityBoard" "UtilityBoard" "dockets" "Ljava/util/ArrayList;" ∈ lw_ok := lw_ok_mem (tb_0 _ (List.mem_of_getElem? (i := 211) (by decide +kernel))) rfl
theorem iu_X11_8 : u_lay RX11 TX11 8 ∈ lw_ok := wd_309
theorem wd_311 : Cond.laysFinal "UtilityBoard" "UtilityBoard" "seenOnes" "Ljava/util/ArrayList;" ∈ lw_ok := lw_ok_mem (tb_0 _ (List.mem_of_getElem? (i := 213) (by decide +kernel))) rfl
theorem iu_X11_9 : u_lay RX11 TX11 9 ∈ lw_ok := wd_311
theorem wd_313 : Cond.laysFinal "UtilityBoard" "UtilityBoard" "rubbedOnes" "Ljava/util/ArrayList;" ∈ lw_ok := lw_ok_mem (tb_0 _ (List.mem_of_getElem? (i := 215) (by decide +kernel))) rfl
theorem iu_X11_10 : u_lay RX11 TX11 10 ∈ lw_ok := wd_313
theorem wd_315 : Cond.laysFinal "UtilityBoard" "UtilityBoard" "marks" "Ljava/util/ArrayList;" ∈ lw_ok := lw_ok_mem (tb_0 _ (List.mem_of_getElem? (i := 217) (by decide +kernel))) rfl
theorem iu_X11_11 : u_lay RX11 TX11 11 ∈ lw_ok := wd_315
theorem wd_317 : Cond.laysFinal "UtilityBoard" "UtilityBoard" "tape" "[B" ∈ lw_ok := lw_ok_mem (tb_0 _ (List.mem_of_getElem? (i := 219) (by decide +kernel))) rfl
theorem iu_X11_12 : u_lay RX11 TX11 12 ∈ lw_ok := wd_317
theorem wd_319 : Cond.lays "UtilityBoard" "UtilityBoard" "taped" "I" ∈ lw_ok := lw_ok_mem (tb_0 _ (List.mem_of_getElem? (i := 221) (by decide +kernel))) rfl
theorem iu_X11_13 : u_lay RX11 TX11 13 ∈ lw_ok := wd_319
theorem wd_321 : Cond.laysFinal "UtilityBoard" "UtilityBoard" "reader" "LUtilityBoard$Reader;" ∈ lw_ok := lw_ok_mem (tb_0 _ (List.mem_of_getElem? (i := 223) (by decide +kernel))) rfl
theorem iu_X11_14 : u_lay RX11 TX11 14 ∈ lw_ok := wd_321
theorem wd_323 : Cond.laysFinal "UtilityBoard" "UtilityBoard" "law" "LUtilityBoard$Law;" ∈ lw_ok := lw_ok_mem (tb_0 _ (List.mem_of_getElem? (i := 225) (by decide +kernel))) rfl
theorem iu_X11_15 : u_lay RX11 TX11 15 ∈ lw_ok := wd_323
theorem wd_325 : Cond.laysFinal "UtilityBoard" "UtilityBoard" "layout" "LUtilityBoard$Layout;" ∈ lw_ok := lw_ok_mem (tb_0 _ (List.mem_of_getElem? (i := 227) (by decide +kernel))) rfl
theorem iu_X11_16 : u_lay RX11 TX11 16 ∈ lw_ok := wd_325
theorem in_X11 : ∀ w ∈ u_ws RX11 TX11 17, w ∈ lw_ok := by
  intro w hw
  obtain ⟨k, hk, rfl⟩ := List.mem_map.mp hw
  have hk := List.mem_range.mp hk
  match k, hk with
  | 0, _ => exact iu_X11_0
  | 1, _ => exact iu_X11_1
  | 2, _ => exact iu_X11_2
  | 3, _ => exact iu_X11_3
  | 4, _ => exact iu_X11_4
  | 5, _ => exact iu_X11_5
  | 6, _ => exact iu_X11_6
  | 7, _ => exact iu_X11_7
  | 8, _ => exact iu_X11_8
  | 9, _ => exact iu_X11_9
  | 10, _ => exact iu_X11_10
  | 11, _ => exact iu_X11_11
  | 12, _ => exact iu_X11_12
  | 13, _ => exact iu_X11_13
  | 14, _ => exact iu_X11_14
  | 15, _ => exact iu_X11_15
  | 16, _ => exact iu_X11_16
  | k + 17, h => exact absurd h (by omega)
theorem wd_1378 : Cond.lays "UtilityBoardModel" "UtilityBoardModel" "now" "I" ∈ lw_ok := lw_ok_mem (tb_5 _ (List.mem_of_getElem? (i := 80) (by decide +kernel))) rfl
theorem iu_X12_0 : u_lay RX12 TX12 0 ∈ lw_ok := wd_1378
theorem wd_1380 : Cond.lays "UtilityBoardModel" "UtilityBoardModel" "cloths" "I" ∈ lw_ok := lw_ok_mem (tb_5 _ (List.mem_of_getElem? (i := 82) (by decide +kernel))) rfl
theorem iu_X12_1 : u_lay RX12 TX12 1 ∈ lw_ok := wd_1380
theorem wd_1382 : Cond.lays "UtilityBoardModel" "UtilityBoardModel" "drawings" "I" ∈ lw_ok := lw_ok_mem (tb_5 _ (List.mem_of_getElem? (i := 84) (by decide +kernel))) rfl
theorem iu_X12_2 : u_lay RX12 TX12 2 ∈ lw_ok := wd_1382
theorem wd_1384 : Cond.lays "UtilityBoardModel" "UtilityBoardModel" "things" "I" ∈ lw_ok := lw_ok_mem (tb_5 _ (List.mem_of_getElem? (i := 86) (by decide +kernel))) rfl
theorem iu_X12_3 : u_lay RX12 TX12 3 ∈ lw_ok := wd_1384
theorem wd_1386 : Cond.laysFinal "UtilityBoardModel" "UtilityBoardModel" "clothNumber" "[I" ∈ lw_ok := lw_ok_mem (tb_5 _ (List.mem_of_getElem? (i := 88) (by decide +kernel))) rfl
theorem iu_X12_4 : u_lay RX12 TX12 4 ∈ lw_ok := wd_1386
theorem wd_1388 : Cond.laysFinal "UtilityBoardModel" "UtilityBoardModel" "clothWear" "[I" ∈ lw_ok := lw_ok_mem (tb_5 _ (List.mem_of_getElem? (i := 90) (by decide +kernel))) rfl
theorem iu_X12_5 : u_lay RX12 TX12 5 ∈ lw_ok := wd_1388
theorem wd_1390 : Cond.laysFinal "UtilityBoardModel" "UtilityBoardModel" "clothCost" "[I" ∈ lw_ok := lw_ok_mem (tb_5 _ (List.mem_of_getElem? (i := 92) (by decide +kernel))) rfl
theorem iu_X12_6 : u_lay RX12 TX12 6 ∈ lw_ok := wd_1390
theorem wd_1392 : Cond.laysFinal "UtilityBoardModel" "UtilityBoardModel" "jointMany" "[I" ∈ lw_ok := lw_ok_mem (tb_5 _ (List.mem_of_getElem? (i := 94) (by decide +kernel))) rfl
theorem iu_X12_7 : u_lay RX12 TX12 7 ∈ lw_ok := wd_1392
theorem wd_1394 : Cond.laysFinal "UtilityBoardModel" "UtilityBoardModel" "stickMany" "[I" ∈ lw_ok := lw_ok_mem (tb_5 _ (List.mem_of_getElem? (i := 96) (by decide +kernel))) rfl
theorem iu_X12_8 : u_lay RX12 TX12 8 ∈ lw_ok := wd_1394
theorem wd_1396 : Cond.laysFinal "UtilityBoardModel" "UtilityBoardModel" "loadMany" "[I" ∈ lw_ok := lw_ok_mem (tb_5 _ (List.mem_of_getElem? (i := 98) (by decide +kernel))) rfl
theorem iu_X12_9 : u_lay RX12 TX12 9 ∈ lw_ok := wd_1396
theorem wd_1398 : Cond.laysFinal "UtilityBoardModel" "UtilityBoardModel" "stickA" "[I" ∈ lw_ok := lw_ok_mem (tb_5 _ (List.mem_of_getElem? (i := 100) (by decide +kernel))) rfl
theorem iu_X12_10 : u_lay RX12 TX12 10 ∈ lw_ok := wd_1398
theorem wd_1400 : Cond.laysFinal "UtilityBoardModel" "UtilityBoardModel" "stickB" "[I" ∈ lw_ok := lw_ok_mem (tb_5 _ (List.mem_of_getElem? (i := 102) (by decide +kernel))) rfl
theorem iu_X12_11 : u_lay RX12 TX12 11 ∈ lw_ok := wd_1400
theorem wd_1402 : Cond.laysFinal "UtilityBoardModel" "UtilityBoardModel" "stickTimber" "[I" ∈ lw_ok := lw_ok_mem (tb_5 _ (List.mem_of_getElem? (i := 104) (by decide +kernel))) rfl
theorem iu_X12_12 : u_lay RX12 TX12 12 ∈ lw_ok := wd_1402
theorem wd_1404 : Cond.laysFinal "UtilityBoardModel" "UtilityBoardModel" "loadAt" "[I" ∈ lw_ok := lw_ok_mem (tb_5 _ (List.mem_of_getElem? (i := 106) (by decide +kernel))) rfl
theorem iu_X12_13 : u_lay RX12 TX12 13 ∈ lw_ok := wd_1404
theorem wd_1406 : Cond.laysFinal "UtilityBoardModel" "UtilityBoardModel" "loadPounds" "[I" ∈ lw_ok := lw_ok_mem (tb_5 _ (List.mem_of_getElem? (i := 108) (by decide +kernel))) rfl
theorem iu_X12_14 : u_lay RX12 TX12 14 ∈ lw_ok := wd_1406
theorem wd_1408 : Cond.laysFinal "UtilityBoardModel" "UtilityBoardModel" "thingKind" "[I" ∈ lw_ok := lw_ok_mem (tb_5 _ (List.mem_of_getElem? (i := 110) (by decide +kernel))) rfl
theorem iu_X12_15 : u_lay RX12 TX12 15 ∈ lw_ok := wd_1408
theorem wd_1410 : Cond.laysFinal "UtilityBoardModel" "UtilityBoardModel" "thingOf" "[I" ∈ lw_ok := lw_ok_mem (tb_5 _ (List.mem_of_getElem? (i := 112) (by decide +kernel))) rfl
theorem iu_X12_16 : u_lay RX12 TX12 16 ∈ lw_ok := wd_1410
theorem wd_1412 : Cond.laysFinal "UtilityBoardModel" "UtilityBoardModel" "pocketsOf" "[I" ∈ lw_ok := lw_ok_mem (tb_5 _ (List.mem_of_getElem? (i := 114) (by decide +kernel))) rfl
theorem iu_X12_17 : u_lay RX12 TX12 17 ∈ lw_ok := wd_1412
theorem wd_1414 : Cond.laysFinal "UtilityBoardModel" "UtilityBoardModel" "inchesOf" "[I" ∈ lw_ok := lw_ok_mem (tb_5 _ (List.mem_of_getElem? (i := 116) (by decide +kernel))) rfl
theorem iu_X12_18 : u_lay RX12 TX12 18 ∈ lw_ok := wd_1414
theorem wd_1416 : Cond.laysFinal "UtilityBoardModel" "UtilityBoardModel" "priceOf" "[I" ∈ lw_ok := lw_ok_mem (tb_5 _ (List.mem_of_getElem? (i := 118) (by decide +kernel))) rfl
theorem iu_X12_19 : u_lay RX12 TX12 19 ∈ lw_ok := wd_1416
theorem wd_1418 : Cond.laysFinal "UtilityBoardModel" "UtilityBoardModel" "plain" "[I" ∈ lw_ok := lw_ok_mem (tb_5 _ (List.mem_of_getElem? (i := 120) (by decide +kernel))) rfl
theorem iu_X12_20 : u_lay RX12 TX12 20 ∈ lw_ok := wd_1418
theorem wd_1420 : Cond.laysFinal "UtilityBoardModel" "UtilityBoardModel" "marked" "[I" ∈ lw_ok := lw_ok_mem (tb_5 _ (List.mem_of_getElem? (i := 122) (by decide +kernel))) rfl
theorem iu_X12_21 : u_lay RX12 TX12 21 ∈ lw_ok := wd_1420
theorem wd_1422 : Cond.laysFinal "UtilityBoardModel" "UtilityBoardModel" "pieceMany" "[I" ∈ lw_ok := lw_ok_mem (tb_5 _ (List.mem_of_getElem? (i := 124) (by decide +kernel))) rfl
theorem iu_X12_22 : u_lay RX12 TX12 22 ∈ lw_ok := wd_1422
theorem wd_1424 : Cond.laysFinal "UtilityBoardModel" "UtilityBoardModel" "pieceLong" "[I" ∈ lw_ok := lw_ok_mem (tb_5 _ (List.mem_of_getElem? (i := 126) (by decide +kernel))) rfl
theorem iu_X12_23 : u_lay RX12 TX12 23 ∈ lw_ok := wd_1424
theorem wd_1426 : Cond.laysFinal "UtilityBoardModel" "UtilityBoardModel" "pieceWide" "[I" ∈ lw_ok := lw_ok_mem (tb_5 _ (List.mem_of_getElem? (i := 128) (by decide +kernel))) rfl
theorem iu_X12_24 : u_lay RX12 TX12 24 ∈ lw_ok := wd_1426
theorem wd_1428 : Cond.laysFinal "UtilityBoardModel" "UtilityBoardModel" "choice" "[I" ∈ lw_ok := lw_ok_mem (tb_5 _ (List.mem_of_getElem? (i := 130) (by decide +kernel))) rfl
theorem iu_X12_25 : u_lay RX12 TX12 25 ∈ lw_ok := wd_1428
theorem wd_1430 : Cond.laysFinal "UtilityBoardModel" "UtilityBoardModel" "bestChoice" "[I" ∈ lw_ok := lw_ok_mem (tb_5 _ (List.mem_of_getElem? (i := 132) (by decide +kernel))) rfl
theorem iu_X12_26 : u_lay RX12 TX12 26 ∈ lw_ok := wd_1430
theorem wd_1432 : Cond.laysFinal "UtilityBoardModel" "UtilityBoardModel" "flow" "[I" ∈ lw_ok := lw_ok_mem (tb_5 _ (List.mem_of_getElem? (i := 134) (by decide +kernel))) rfl
theorem iu_X12_27 : u_lay RX12 TX12 27 ∈ lw_ok := wd_1432
theorem wd_1434 : Cond.laysFinal "UtilityBoardModel" "UtilityBoardModel" "cameBy" "[I" ∈ lw_ok := lw_ok_mem (tb_5 _ (List.mem_of_getElem? (i := 136) (by decide +kernel))) rfl
theorem iu_X12_28 : u_lay RX12 TX12 28 ∈ lw_ok := wd_1434
theorem wd_1436 : Cond.laysFinal "UtilityBoardModel" "UtilityBoardModel" "row" "[I" ∈ lw_ok := lw_ok_mem (tb_5 _ (List.mem_of_getElem? (i := 138) (by decide +kernel))) rfl
theorem iu_X12_29 : u_lay RX12 TX12 29 ∈ lw_ok := wd_1436
theorem wd_1438 : Cond.laysFinal "UtilityBoardModel" "UtilityBoardModel" "bestRow" "[I" ∈ lw_ok := lw_ok_mem (tb_5 _ (List.mem_of_getElem? (i := 140) (by decide +kernel))) rfl
theorem iu_X12_30 : u_lay RX12 TX12 30 ∈ lw_ok := wd_1438
theorem wd_1440 : Cond.lays "UtilityBoardModel" "UtilityBoardModel" "makers" "I" ∈ lw_ok := lw_ok_mem (tb_5 _ (List.mem_of_getElem? (i := 142) (by decide +kernel))) rfl
theorem iu_X12_31 : u_lay RX12 TX12 31 ∈ lw_ok := wd_1440
theorem wd_1442 : Cond.laysFinal "UtilityBoardModel" "UtilityBoardModel" "townOf" "[I" ∈ lw_ok := lw_ok_mem (tb_5 _ (List.mem_of_getElem? (i := 144) (by decide +kernel))) rfl
theorem iu_X12_32 : u_lay RX12 TX12 32 ∈ lw_ok := wd_1442
theorem wd_1444 : Cond.laysFinal "UtilityBoardModel" "UtilityBoardModel" "plantOf" "[I" ∈ lw_ok := lw_ok_mem (tb_5 _ (List.mem_of_getElem? (i := 146) (by decide +kernel))) rfl
theorem iu_X12_33 : u_lay RX12 TX12 33 ∈ lw_ok := wd_1444
theorem wd_1446 : Cond.laysFinal "UtilityBoardModel" "UtilityBoardModel" "handsOf" "[I" ∈ lw_ok := lw_ok_mem (tb_5 _ (List.mem_of_getElem? (i := 148) (by decide +kernel))) rfl
theorem iu_X12_34 : u_lay RX12 TX12 34 ∈ lw_ok := wd_1446
theorem wd_1448 : Cond.laysFinal "UtilityBoardModel" "UtilityBoardModel" "rateOf" "[I" ∈ lw_ok := lw_ok_mem (tb_5 _ (List.mem_of_getElem? (i := 150) (by decide +kernel))) rfl
theorem iu_X12_35 : u_lay RX12 TX12 35 ∈ lw_ok := wd_1448
theorem wd_1450 : Cond.laysFinal "UtilityBoardModel" "UtilityBoardModel" "hireOf" "[I" ∈ lw_ok := lw_ok_mem (tb_5 _ (List.mem_of_getElem? (i := 152) (by decide +kernel))) rfl
theorem iu_X12_36 : u_lay RX12 TX12 36 ∈ lw_ok := wd_1450
theorem wd_1452 : Cond.laysFinal "UtilityBoardModel" "UtilityBoardModel" "yardsOf" "[I" ∈ lw_ok := lw_ok_mem (tb_5 _ (List.mem_of_getElem? (i := 154) (by decide +kernel))) rfl
theorem iu_X12_37 : u_lay RX12 TX12 37 ∈ lw_ok := wd_1452
theorem wd_1454 : Cond.laysFinal "UtilityBoardModel" "UtilityBoardModel" "madeNow" "[I" ∈ lw_ok := lw_ok_mem (tb_5 _ (List.mem_of_getElem? (i := 156) (by decide +kernel))) rfl
theorem iu_X12_38 : u_lay RX12 TX12 38 ∈ lw_ok := wd_1454
theorem wd_1456 : Cond.laysFinal "UtilityBoardModel" "UtilityBoardModel" "isNamed" "[Z" ∈ lw_ok := lw_ok_mem (tb_5 _ (List.mem_of_getElem? (i := 158) (by decide +kernel))) rfl
theorem iu_X12_39 : u_lay RX12 TX12 39 ∈ lw_ok := wd_1456
theorem wd_1458 : Cond.laysFinal "UtilityBoardModel" "UtilityBoardModel" "tape" "[B" ∈ lw_ok := lw_ok_mem (tb_5 _ (List.mem_of_getElem? (i := 160) (by decide +kernel))) rfl
theorem iu_X12_40 : u_lay RX12 TX12 40 ∈ lw_ok := wd_1458
theorem wd_1460 : Cond.lays "UtilityBoardModel" "UtilityBoardModel" "taped" "I" ∈ lw_ok := lw_ok_mem (tb_5 _ (List.mem_of_getElem? (i := 162) (by decide +kernel))) rfl
theorem iu_X12_41 : u_lay RX12 TX12 41 ∈ lw_ok := wd_1460
theorem wd_1462 : Cond.lays "UtilityBoardModel" "UtilityBoardModel" "place0" "I" ∈ lw_ok := lw_ok_mem (tb_5 _ (List.mem_of_getElem? (i := 164) (by decide +kernel))) rfl
theorem iu_X12_42 : u_lay RX12 TX12 42 ∈ lw_ok := wd_1462
theorem wd_1464 : Cond.lays "UtilityBoardModel" "UtilityBoardModel" "length0" "I" ∈ lw_ok := lw_ok_mem (tb_5 _ (List.mem_of_getElem? (i := 166) (by decide +kernel))) rfl
theorem iu_X12_43 : u_lay RX12 TX12 43 ∈ lw_ok := wd_1464
theorem wd_1466 : Cond.lays "UtilityBoardModel" "UtilityBoardModel" "fault" "I" ∈ lw_ok := lw_ok_mem (tb_5 _ (List.mem_of_getElem? (i := 168) (by decide +kernel))) rfl
theorem iu_X12_44 : u_lay RX12 TX12 44 ∈ lw_ok := wd_1466
theorem wd_1468 : Cond.lays "UtilityBoardModel" "UtilityBoardModel" "number0" "I" ∈ lw_ok := lw_ok_mem (tb_5 _ (List.mem_of_getElem? (i := 170) (by decide +kernel))) rfl
theorem iu_X12_45 : u_lay RX12 TX12 45 ∈ lw_ok := wd_1468
theorem wd_1470 : Cond.lays "UtilityBoardModel" "UtilityBoardModel" "open" "I" ∈ lw_ok := lw_ok_mem (tb_5 _ (List.mem_of_getElem? (i := 172) (by decide +kernel))) rfl
theorem iu_X12_46 : u_lay RX12 TX12 46 ∈ lw_ok := wd_1470
theorem wd_1472 : Cond.lays "UtilityBoardModel" "UtilityBoardModel" "codeMany" "I" ∈ lw_ok := lw_ok_mem (tb_5 _ (List.mem_of_getElem? (i := 174) (by decide +kernel))) rfl
theorem iu_X12_47 : u_lay RX12 TX12 47 ∈ lw_ok := wd_1472
theorem wd_1474 : Cond.lays "UtilityBoardModel" "UtilityBoardModel" "waiting" "I" ∈ lw_ok := lw_ok_mem (tb_5 _ (List.mem_of_getElem? (i := 176) (by decide +kernel))) rfl
theorem iu_X12_48 : u_lay RX12 TX12 48 ∈ lw_ok := wd_1474
theorem wd_1476 : Cond.lays "UtilityBoardModel" "UtilityBoardModel" "saidClauses" "I" ∈ lw_ok := lw_ok_mem (tb_5 _ (List.mem_of_getElem? (i := 178) (by decide +kernel))) rfl
theorem iu_X12_49 : u_lay RX12 TX12 49 ∈ lw_ok := wd_1476
theorem wd_1478 : Cond.laysFinal "UtilityBoardModel" "UtilityBoardModel" "said" "[I" ∈ lw_ok := lw_ok_mem (tb_5 _ (List.mem_of_getElem? (i := 180) (by decide +kernel))) rfl
theorem iu_X12_50 : u_lay RX12 TX12 50 ∈ lw_ok := wd_1478
theorem wd_1480 : Cond.laysFinal "UtilityBoardModel" "UtilityBoardModel" "waits" "[I" ∈ lw_ok := lw_ok_mem (tb_5 _ (List.mem_of_getElem? (i := 182) (by decide +kernel))) rfl
theorem iu_X12_51 : u_lay RX12 TX12 51 ∈ lw_ok := wd_1480
theorem wd_1482 : Cond.laysFinal "UtilityBoardModel" "UtilityBoardModel" "saidLetter" "[I" ∈ lw_ok := lw_ok_mem (tb_5 _ (List.mem_of_getElem? (i := 184) (by decide +kernel))) rfl
theorem iu_X12_52 : u_lay RX12 TX12 52 ∈ lw_ok := wd_1482
theorem wd_1484 : Cond.laysFinal "UtilityBoardModel" "UtilityBoardModel" "saidFrom" "[I" ∈ lw_ok := lw_ok_mem (tb_5 _ (List.mem_of_getElem? (i := 186) (by decide +kernel))) rfl
theorem iu_X12_53 : u_lay RX12 TX12 53 ∈ lw_ok := wd_1484
theorem wd_1486 : Cond.laysFinal "UtilityBoardModel" "UtilityBoardModel" "saidTo" "[I" ∈ lw_ok := lw_ok_mem (tb_5 _ (List.mem_of_getElem? (i := 188) (by decide +kernel))) rfl
theorem iu_X12_54 : u_lay RX12 TX12 54 ∈ lw_ok := wd_1486
theorem wd_1488 : Cond.laysFinal "UtilityBoardModel" "UtilityBoardModel" "saidN" "[I" ∈ lw_ok := lw_ok_mem (tb_5 _ (List.mem_of_getElem? (i := 190) (by decide +kernel))) rfl
theorem iu_X12_55 : u_lay RX12 TX12 55 ∈ lw_ok := wd_1488
theorem wd_1490 : Cond.laysFinal "UtilityBoardModel" "UtilityBoardModel" "saidJ" "[I" ∈ lw_ok := lw_ok_mem (tb_5 _ (List.mem_of_getElem? (i := 192) (by decide +kernel))) rfl
theorem iu_X12_56 : u_lay RX12 TX12 56 ∈ lw_ok := wd_1490
theorem wd_1492 : Cond.lays "UtilityBoardModel" "UtilityBoardModel" "orders" "I" ∈ lw_ok := lw_ok_mem (tb_5 _ (List.mem_of_getElem? (i := 194) (by decide +kernel))) rfl
theorem iu_X12_57 : u_lay RX12 TX12 57 ∈ lw_ok := wd_1492
theorem wd_1494 : Cond.lays "UtilityBoardModel" "UtilityBoardModel" "without" "I" ∈ lw_ok := lw_ok_mem (tb_5 _ (List.mem_of_getElem? (i := 196) (by decide +kernel))) rfl
theorem iu_X12_58 : u_lay RX12 TX12 58 ∈ lw_ok := wd_1494
theorem wd_1496 : Cond.laysFinal "UtilityBoardModel" "UtilityBoardModel" "codes" "[I" ∈ lw_ok := lw_ok_mem (tb_5 _ (List.mem_of_getElem? (i := 198) (by decide +kernel))) rfl
theorem iu_X12_59 : u_lay RX12 TX12 59 ∈ lw_ok := wd_1496
theorem wd_1498 : Cond.laysFinal "UtilityBoardModel" "UtilityBoardModel" "orderFrom" "[I" ∈ lw_ok := lw_ok_mem (tb_5 _ (List.mem_of_getElem? (i := 200) (by decide +kernel))) rfl
theorem iu_X12_60 : u_lay RX12 TX12 60 ∈ lw_ok := wd_1498
theorem wd_1500 : Cond.laysFinal "UtilityBoardModel" "UtilityBoardModel" "orderTo" "[I" ∈ lw_ok := lw_ok_mem (tb_5 _ (List.mem_of_getElem? (i := 202) (by decide +kernel))) rfl
theorem iu_X12_61 : u_lay RX12 TX12 61 ∈ lw_ok := wd_1500
theorem wd_1502 : Cond.laysFinal "UtilityBoardModel" "UtilityBoardModel" "orderTold" "[I" ∈ lw_ok := lw_ok_mem (tb_5 _ (List.mem_of_getElem? (i := 204) (by decide +kernel))) rfl
theorem iu_X12_62 : u_lay RX12 TX12 62 ∈ lw_ok := wd_1502
theorem wd_1504 : Cond.laysFinal "UtilityBoardModel" "UtilityBoardModel" "clauseMany" "[I" ∈ lw_ok := lw_ok_mem (tb_5 _ (List.mem_of_getElem? (i := 206) (by decide +kernel))) rfl
theorem iu_X12_63 : u_lay RX12 TX12 63 ∈ lw_ok := wd_1504
theorem wd_1506 : Cond.laysFinal "UtilityBoardModel" "UtilityBoardModel" "letterOf" "[I" ∈ lw_ok := lw_ok_mem (tb_5 _ (List.mem_of_getElem? (i := 208) (by decide +kernel))) rfl
theorem iu_X12_64 : u_lay RX12 TX12 64 ∈ lw_ok := wd_1506
theorem wd_1508 : Cond.laysFinal "UtilityBoardModel" "UtilityBoardModel" "codeFrom" "[I" ∈ lw_ok := lw_ok_mem (tb_5 _ (List.mem_of_getElem? (i := 210) (by decide +kernel))) rfl
theorem iu_X12_65 : u_lay RX12 TX12 65 ∈ lw_ok := wd_1508
theorem wd_1510 : Cond.laysFinal "UtilityBoardModel" "UtilityBoardModel" "codeTo" "[I" ∈ lw_ok := lw_ok_mem (tb_5 _ (List.mem_of_getElem? (i := 212) (by decide +kernel))) rfl
theorem iu_X12_66 : u_lay RX12 TX12 66 ∈ lw_ok := wd_1510
theorem wd_1512 : Cond.laysFinal "UtilityBoardModel" "UtilityBoardModel" "nOf" "[I" ∈ lw_ok := lw_ok_mem (tb_5 _ (List.mem_of_getElem? (i := 214) (by decide +kernel))) rfl
theorem iu_X12_67 : u_lay RX12 TX12 67 ∈ lw_ok := wd_1512
theorem wd_1514 : Cond.laysFinal "UtilityBoardModel" "UtilityBoardModel" "jOf" "[I" ∈ lw_ok := lw_ok_mem (tb_5 _ (List.mem_of_getElem? (i := 216) (by decide +kernel))) rfl
theorem iu_X12_68 : u_lay RX12 TX12 68 ∈ lw_ok := wd_1514
theorem wd_1516 : Cond.laysFinal "UtilityBoardModel" "UtilityBoardModel" "isStruck" "[Z" ∈ lw_ok := lw_ok_mem (tb_5 _ (List.mem_of_getElem? (i := 218) (by decide +kernel))) rfl
theorem iu_X12_69 : u_lay RX12 TX12 69 ∈ lw_ok := wd_1516
theorem wd_1518 : Cond.laysFinal "UtilityBoardModel" "UtilityBoardModel" "stack" "[I" ∈ lw_ok := lw_ok_mem (tb_5 _ (List.mem_of_getElem? (i := 220) (by decide +kernel))) rfl
theorem iu_X12_70 : u_lay RX12 TX12 70 ∈ lw_ok := wd_1518
theorem wd_1520 : Cond.laysFinal "UtilityBoardModel" "UtilityBoardModel" "facts" "[I" ∈ lw_ok := lw_ok_mem (tb_5 _ (List.mem_of_getElem? (i := 222) (by decide +kernel))) rfl
theorem iu_X12_71 : u_lay RX12 TX12 71 ∈ lw_ok := wd_1520
theorem wd_1522 : Cond.lays "UtilityBoardModel" "UtilityBoardModel" "whyOrder" "I" ∈ lw_ok := lw_ok_mem (tb_5 _ (List.mem_of_getElem? (i := 224) (by decide +kernel))) rfl
theorem iu_X12_72 : u_lay RX12 TX12 72 ∈ lw_ok := wd_1522
theorem wd_1524 : Cond.lays "UtilityBoardModel" "UtilityBoardModel" "whyClause" "I" ∈ lw_ok := lw_ok_mem (tb_5 _ (List.mem_of_getElem? (i := 226) (by decide +kernel))) rfl
theorem iu_X12_73 : u_lay RX12 TX12 73 ∈ lw_ok := wd_1524
theorem wd_1526 : Cond.laysFinal "UtilityBoardModel" "UtilityBoardModel" "madeMarked" "[I" ∈ lw_ok := lw_ok_mem (tb_5 _ (List.mem_of_getElem? (i := 228) (by decide +kernel))) rfl
theorem iu_X12_74 : u_lay RX12 TX12 74 ∈ lw_ok := wd_1526
theorem wd_1528 : Cond.laysFinal "UtilityBoardModel" "UtilityBoardModel" "boughtMarked" "[I" ∈ lw_ok := lw_ok_mem (tb_5 _ (List.mem_of_getElem? (i := 230) (by decide +kernel))) rfl
theorem iu_X12_75 : u_lay RX12 TX12 75 ∈ lw_ok := wd_1528
theorem wd_1530 : Cond.lays "UtilityBoardModel" "UtilityBoardModel" "persons" "I" ∈ lw_ok := lw_ok_mem (tb_5 _ (List.mem_of_getElem? (i := 232) (by decide +kernel))) rfl
theorem iu_X12_76 : u_lay RX12 TX12 76 ∈ lw_ok := wd_1530
theorem wd_1532 : Cond.laysFinal "UtilityBoardModel" "UtilityBoardModel" "points" "[I" ∈ lw_ok := lw_ok_mem (tb_5 _ (List.mem_of_getElem? (i := 234) (by decide +kernel))) rfl
theorem iu_X12_77 : u_lay RX12 TX12 77 ∈ lw_ok := wd_1532
theorem wd_1534 : Cond.laysFinal "UtilityBoardModel" "UtilityBoardModel" "purse" "[I" ∈ lw_ok := lw_ok_mem (tb_5 _ (List.mem_of_getElem? (i := 236) (by decide +kernel))) rfl
theorem iu_X12_78 : u_lay RX12 TX12 78 ∈ lw_ok := wd_1534
theorem wd_1536 : Cond.lays "UtilityBoardModel" "UtilityBoardModel" "dockets" "I" ∈ lw_ok := lw_ok_mem (tb_5 _ (List.mem_of_getElem? (i := 238) (by decide +kernel))) rfl
theorem iu_X12_79 : u_lay RX12 TX12 79 ∈ lw_ok := wd_1536
theorem wd_1538 : Cond.laysFinal "UtilityBoardModel" "UtilityBoardModel" "docketOf" "[I" ∈ lw_ok := lw_ok_mem (tb_6 _ (List.mem_of_getElem? (i := 0) (by decide +kernel))) rfl
theorem iu_X12_80 : u_lay RX12 TX12 80 ∈ lw_ok := wd_1538
theorem wd_1540 : Cond.laysFinal "UtilityBoardModel" "UtilityBoardModel" "docketThing" "[I" ∈ lw_ok := lw_ok_mem (tb_6 _ (List.mem_of_getElem? (i := 2) (by decide +kernel))) rfl
theorem iu_X12_81 : u_lay RX12 TX12 81 ∈ lw_ok := wd_1540
theorem wd_1542 : Cond.laysFinal "UtilityBoardModel" "UtilityBoardModel" "docketSince" "[I" ∈ lw_ok := lw_ok_mem (tb_6 _ (List.mem_of_getElem? (i := 4) (by decide +kernel))) rfl
theorem iu_X12_82 : u_lay RX12 TX12 82 ∈ lw_ok := wd_1542
theorem wd_1544 : Cond.laysFinal "UtilityBoardModel" "UtilityBoardModel" "docketWeight" "[I" ∈ lw_ok := lw_ok_mem (tb_6 _ (List.mem_of_getElem? (i := 6) (by decide +kernel))) rfl
theorem iu_X12_83 : u_lay RX12 TX12 83 ∈ lw_ok := wd_1544
theorem wd_1546 : Cond.laysFinal "UtilityBoardModel" "UtilityBoardModel" "isOpen" "[Z" ∈ lw_ok := lw_ok_mem (tb_6 _ (List.mem_of_getElem? (i := 8) (by decide +kernel))) rfl
theorem iu_X12_84 : u_lay RX12 TX12 84 ∈ lw_ok := wd_1546
theorem wd_1548 : Cond.lays "UtilityBoardModel" "UtilityBoardModel" "seenMany" "I" ∈ lw_ok := lw_ok_mem (tb_6 _ (List.mem_of_getElem? (i := 10) (by decide +kernel))) rfl
theorem iu_X12_85 : u_lay RX12 TX12 85 ∈ lw_ok := wd_1548
theorem wd_1550 : Cond.lays "UtilityBoardModel" "UtilityBoardModel" "rubbedMany" "I" ∈ lw_ok := lw_ok_mem (tb_6 _ (List.mem_of_getElem? (i := 12) (by decide +kernel))) rfl
theorem iu_X12_86 : u_lay RX12 TX12 86 ∈ lw_ok := wd_1550
theorem wd_1552 : Cond.lays "UtilityBoardModel" "UtilityBoardModel" "turnsAWeek" "I" ∈ lw_ok := lw_ok_mem (tb_6 _ (List.mem_of_getElem? (i := 14) (by decide +kernel))) rfl
theorem iu_X12_87 : u_lay RX12 TX12 87 ∈ lw_ok := wd_1552
theorem wd_1554 : Cond.laysFinal "UtilityBoardModel" "UtilityBoardModel" "seenThing" "[I" ∈ lw_ok := lw_ok_mem (tb_6 _ (List.mem_of_getElem? (i := 16) (by decide +kernel))) rfl
theorem iu_X12_88 : u_lay RX12 TX12 88 ∈ lw_ok := wd_1554
theorem wd_1556 : Cond.laysFinal "UtilityBoardModel" "UtilityBoardModel" "seenWeek" "[I" ∈ lw_ok := lw_ok_mem (tb_6 _ (List.mem_of_getElem? (i := 18) (by decide +kernel))) rfl
theorem iu_X12_89 : u_lay RX12 TX12 89 ∈ lw_ok := wd_1556
theorem wd_1558 : Cond.laysFinal "UtilityBoardModel" "UtilityBoardModel" "seenCount" "[I" ∈ lw_ok := lw_ok_mem (tb_6 _ (List.mem_of_getElem? (i := 20) (by decide +kernel))) rfl
theorem iu_X12_90 : u_lay RX12 TX12 90 ∈ lw_ok := wd_1558
theorem wd_1560 : Cond.laysFinal "UtilityBoardModel" "UtilityBoardModel" "rubbedCloth" "[I" ∈ lw_ok := lw_ok_mem (tb_6 _ (List.mem_of_getElem? (i := 22) (by decide +kernel))) rfl
theorem iu_X12_91 : u_lay RX12 TX12 91 ∈ lw_ok := wd_1560
theorem wd_1562 : Cond.laysFinal "UtilityBoardModel" "UtilityBoardModel" "rubbedTurns" "[I" ∈ lw_ok := lw_ok_mem (tb_6 _ (List.mem_of_getElem? (i := 24) (by decide +kernel))) rfl
theorem iu_X12_92 : u_lay RX12 TX12 92 ∈ lw_ok := wd_1562
theorem wd_1564 : Cond.laysFinal "UtilityBoardModel" "UtilityBoardModel" "rubbedTold" "[I" ∈ lw_ok := lw_ok_mem (tb_6 _ (List.mem_of_getElem? (i := 26) (by decide +kernel))) rfl
theorem iu_X12_93 : u_lay RX12 TX12 93 ∈ lw_ok := wd_1564
theorem wd_1566 : Cond.laysFinal "UtilityBoardModel" "UtilityBoardModel" "isTorn" "[Z" ∈ lw_ok := lw_ok_mem (tb_6 _ (List.mem_of_getElem? (i := 28) (by decide +kernel))) rfl
theorem iu_X12_94 : u_lay RX12 TX12 94 ∈ lw_ok := wd_1566
theorem in_X12 : ∀ w ∈ u_ws RX12 TX12 95, w ∈ lw_ok := by
  intro w hw
  obtain ⟨k, hk, rfl⟩ := List.mem_map.mp hw
  have hk := List.mem_range.mp hk
  match k, hk with
  | 0, _ => exact iu_X12_0
  | 1, _ => exact iu_X12_1
  | 2, _ => exact iu_X12_2
  | 3, _ => exact iu_X12_3
  | 4, _ => exact iu_X12_4
  | 5, _ => exact iu_X12_5
  | 6, _ => exact iu_X12_6
  | 7, _ => exact iu_X12_7
  | 8, _ => exact iu_X12_8
  | 9, _ => exact iu_X12_9
  | 10, _ => exact iu_X12_10
  | 11, _ => exact iu_X12_11
  | 12, _ => exact iu_X12_12
  | 13, _ => exact iu_X12_13
  | 14, _ => exact iu_X12_14
  | 15, _ => exact iu_X12_15
  | 16, _ => exact iu_X12_16
  | 17, _ => exact iu_X12_17
  | 18, _ => exact iu_X12_18
  | 19, _ => exact iu_X12_19
  | 20, _ => exact iu_X12_20
  | 21, _ => exact iu_X12_21
  | 22, _ => exact iu_X12_22
  | 23, _ => exact iu_X12_23
  | 24, _ => exact iu_X12_24
  | 25, _ => exact iu_X12_25
  | 26, _ => exact iu_X12_26
  | 27, _ => exact iu_X12_27
  | 28, _ => exact iu_X12_28
  | 29, _ => exact iu_X12_29
  | 30, _ => exact iu_X12_30
  | 31, _ => exact iu_X12_31
  | 32, _ => exact iu_X12_32
  | 33, _ => exact iu_X12_33
  | 34, _ => exact iu_X12_34
  | 35, _ => exact iu_X12_35
  | 36, _ => exact iu_X12_36
  | 37, _ => exact iu_X12_37
  | 38, _ => exact iu_X12_38
  | 39, _ => exact iu_X12_39
  | 40, _ => exact iu_X12_40
  | 41, _ => exact iu_X12_41
  | 42, _ => exact iu_X12_42
  | 43, _ => exact iu_X12_43
  | 44, _ => exact iu_X12_44
  | 45, _ => exact iu_X12_45
  | 46, _ => exact iu_X12_46
  | 47, _ => exact iu_X12_47
  | 48, _ => exact iu_X12_48
  | 49, _ => exact iu_X12_49
  | 50, _ => exact iu_X12_50
  | 51, _ => exact iu_X12_51
  | 52, _ => exact iu_X12_52
  | 53, _ => exact iu_X12_53
  | 54, _ => exact iu_X12_54
  | 55, _ => exact iu_X12_55
  | 56, _ => exact iu_X12_56
  | 57, _ => exact iu_X12_57
  | 58, _ => exact iu_X12_58
  | 59, _ => exact iu_X12_59
  | 60, _ => exact iu_X12_60
  | 61, _ => exact iu_X12_61
  | 62, _ => exact iu_X12_62
  | 63, _ => exact iu_X12_63
  | 64, _ => exact iu_X12_64
  | 65, _ => exact iu_X12_65
  | 66, _ => exact iu_X12_66
  | 67, _ => exact iu_X12_67
  | 68, _ => exact iu_X12_68
  | 69, _ => exact iu_X12_69
  | 70, _ => exact iu_X12_70
  | 71, _ => exact iu_X12_71
  | 72, _ => exact iu_X12_72
  | 73, _ => exact iu_X12_73
  | 74, _ => exact iu_X12_74
  | 75, _ => exact iu_X12_75
  | 76, _ => exact iu_X12_76
  | 77, _ => exact iu_X12_77
  | 78, _ => exact iu_X12_78
  | 79, _ => exact iu_X12_79
  | 80, _ => exact iu_X12_80
  | 81, _ => exact iu_X12_81
  | 82, _ => exact iu_X12_82
  | 83, _ => exact iu_X12_83
  | 84, _ => exact iu_X12_84
  | 85, _ => exact iu_X12_85
  | 86, _ => exact iu_X12_86
  | 87, _ => exact iu_X12_87
  | 88, _ => exact iu_X12_88
  | 89, _ => exact iu_X12_89
  | 90, _ => exact iu_X12_90
  | 91, _ => exact iu_X12_91
  | 92, _ => exact iu_X12_92
  | 93, _ => exact iu_X12_93
  | 94, _ => exact iu_X12_94
  | k + 95, h => exact absurd h (by omega)
theorem wd_157 : Cond.lays "java/util/ArrayList" "java/util/AbstractList" "modCount" "I" ∈ lw_ok := lw_ok_mem (tb_0 _ (List.mem_of_getElem? (i := 59) (by decide +kernel))) rfl
theorem iu_Jx4a65c_0 : u_lay RJx4a65c TJx4a65c 0 ∈ lw_ok := wd_157
theorem wd_153 : Cond.lays "java/util/ArrayList" "java/util/ArrayList" "elementData" "[Ljava/lang/Object;" ∈ lw_ok := lw_ok_mem (tb_0 _ (List.mem_of_getElem? (i := 55) (by decide +kernel))) rfl
theorem iu_Jx4a65c_1 : u_lay RJx4a65c TJx4a65c 1 ∈ lw_ok := wd_153
theorem wd_155 : Cond.lays "java/util/ArrayList" "java/util/ArrayList" "size" "I" ∈ lw_ok := lw_ok_mem (tb_0 _ (List.mem_of_getElem? (i := 57) (by decide +kernel))) rfl
theorem iu_Jx4a65c_2 : u_lay RJx4a65c TJx4a65c 2 ∈ lw_ok := wd_155
theorem in_Jx4a65c : ∀ w ∈ u_ws RJx4a65c TJx4a65c 3, w ∈ lw_ok := by
  intro w hw
  obtain ⟨k, hk, rfl⟩ := List.mem_map.mp hw
  have hk := List.mem_range.mp hk
  match k, hk with
  | 0, _ => exact iu_Jx4a65c_0
  | 1, _ => exact iu_Jx4a65c_1
  | 2, _ => exact iu_Jx4a65c_2
  | k + 3, h => exact absurd h (by omega)
theorem wd_276 : Cond.fieldLink "UtilityBoard" (7 : Nat) "UtilityBoard" "now" "I" ∈ lw_ok := lw_ok_mem (tb_0 _ (List.mem_of_getElem? (i := 178) (by decide +kernel))) rfl
theorem fl_X11_7 : FL RX11 7 11 0 := ⟨RX11, TX11, 17, "UtilityBoard", rfl, by decide, wd_276, Or.inl rfl, in_X11⟩
theorem fp_X11_7 : FP RX11 7 11 0 .int := ⟨RX11, TX11, 17, "UtilityBoard", tyX11, rfl, by decide, wd_276, Or.inl rfl, in_X11, tyX11_ok, nmX11, tyX11_ok 0 (by decide), rfl⟩
theorem wd_277 : Cond.fieldLink "UtilityBoard" (13 : Nat) "UtilityBoard" "turnsAWeek" "I" ∈ lw_ok := lw_ok_mem (tb_0 _ (List.mem_of_getElem? (i := 179) (by decide +kernel))) rfl
theorem fl_X11_13 : FL RX11 13 11 1 := ⟨RX11, TX11, 17, "UtilityBoard", rfl, by decide, wd_277, Or.inl rfl, in_X11⟩
theorem fp_X11_13 : FP RX11 13 11 1 .int := ⟨RX11, TX11, 17, "UtilityBoard", tyX11, rfl, by decide, wd_277, Or.inl rfl, in_X11, tyX11_ok, nmX11, tyX11_ok 1 (by decide), rfl⟩
theorem wd_278 : Cond.fieldLink "UtilityBoard" (19 : Nat) "UtilityBoard" "cloths" "Ljava/util/ArrayList;" ∈ lw_ok := lw_ok_mem (tb_0 _ (List.mem_of_getElem? (i := 180) (by decide +kernel))) rfl
theorem fl_X11_19 : FL RX11 19 11 2 := ⟨RX11, TX11, 17, "UtilityBoard", rfl, by decide, wd_278, Or.inl rfl, in_X11⟩
theorem fq_X11_19 : FPF RX11 19 11 2 (.object "java/util/ArrayList") := ⟨RX11, TX11, 17, "UtilityBoard", tyX11, rfl, by decide, wd_278, Or.inl rfl, in_X11, tyX11_ok, nmX11, tyX11_ok 2 (by decide), rfl, rfl⟩
theorem wd_279 : Cond.fieldLink "UtilityBoard" (23 : Nat) "UtilityBoard" "drawings" "Ljava/util/ArrayList;" ∈ lw_ok := lw_ok_mem (tb_0 _ (List.mem_of_getElem? (i := 181) (by decide +kernel))) rfl
theorem fl_X11_23 : FL RX11 23 11 3 := ⟨RX11, TX11, 17, "UtilityBoard", rfl, by decide, wd_279, Or.inl rfl, in_X11⟩
theorem fq_X11_23 : FPF RX11 23 11 3 (.object "java/util/ArrayList") := ⟨RX11, TX11, 17, "UtilityBoard", tyX11, rfl, by decide, wd_279, Or.inl rfl, in_X11, tyX11_ok, nmX11, tyX11_ok 3 (by decide), rfl, rfl⟩
theorem wd_280 : Cond.fieldLink "UtilityBoard" (26 : Nat) "UtilityBoard" "things" "Ljava/util/ArrayList;" ∈ lw_ok := lw_ok_mem (tb_0 _ (List.mem_of_getElem? (i := 182) (by decide +kernel))) rfl
theorem fl_X11_26 : FL RX11 26 11 4 := ⟨RX11, TX11, 17, "UtilityBoard", rfl, by decide, wd_280, Or.inl rfl, in_X11⟩
theorem fq_X11_26 : FPF RX11 26 11 4 (.object "java/util/ArrayList") := ⟨RX11, TX11, 17, "UtilityBoard", tyX11, rfl, by decide, wd_280, Or.inl rfl, in_X11, tyX11_ok, nmX11, tyX11_ok 4 (by decide), rfl, rfl⟩
theorem wd_281 : Cond.fieldLink "UtilityBoard" (29 : Nat) "UtilityBoard" "makers" "Ljava/util/ArrayList;" ∈ lw_ok := lw_ok_mem (tb_0 _ (List.mem_of_getElem? (i := 183) (by decide +kernel))) rfl
theorem fl_X11_29 : FL RX11 29 11 5 := ⟨RX11, TX11, 17, "UtilityBoard", rfl, by decide, wd_281, Or.inl rfl, in_X11⟩
theorem fq_X11_29 : FPF RX11 29 11 5 (.object "java/util/ArrayList") := ⟨RX11, TX11, 17, "UtilityBoard", tyX11, rfl, by decide, wd_281, Or.inl rfl, in_X11, tyX11_ok, nmX11, tyX11_ok 5 (by decide), rfl, rfl⟩
theorem wd_282 : Cond.fieldLink "UtilityBoard" (32 : Nat) "UtilityBoard" "byRate" "[I" ∈ lw_ok := lw_ok_mem (tb_0 _ (List.mem_of_getElem? (i := 184) (by decide +kernel))) rfl
theorem fl_X11_32 : FL RX11 32 11 6 := ⟨RX11, TX11, 17, "UtilityBoard", rfl, by decide, wd_282, Or.inl rfl, in_X11⟩
theorem fq_X11_32 : FPF RX11 32 11 6 (.array .int) := ⟨RX11, TX11, 17, "UtilityBoard", tyX11, rfl, by decide, wd_282, Or.inl rfl, in_X11, tyX11_ok, nmX11, tyX11_ok 6 (by decide), rfl, rfl⟩
theorem wd_283 : Cond.fieldLink "UtilityBoard" (36 : Nat) "UtilityBoard" "persons" "Ljava/util/ArrayList;" ∈ lw_ok := lw_ok_mem (tb_0 _ (List.mem_of_getElem? (i := 185) (by decide +kernel))) rfl
theorem fl_X11_36 : FL RX11 36 11 7 := ⟨RX11, TX11, 17, "UtilityBoard", rfl, by decide, wd_283, Or.inl rfl, in_X11⟩
theorem fq_X11_36 : FPF RX11 36 11 7 (.object "java/util/ArrayList") := ⟨RX11, TX11, 17, "UtilityBoard", tyX11, rfl, by decide, wd_283, Or.inl rfl, in_X11, tyX11_ok, nmX11, tyX11_ok 7 (by decide), rfl, rfl⟩
theorem wd_284 : Cond.fieldLink "UtilityBoard" (39 : Nat) "UtilityBoard" "dockets" "Ljava/util/ArrayList;" ∈ lw_ok := lw_ok_mem (tb_0 _ (List.mem_of_getElem? (i := 186) (by decide +kernel))) rfl
theorem fl_X11_39 : FL RX11 39 11 8 := ⟨RX11, TX11, 17, "UtilityBoard", rfl, by decide, wd_284, Or.inl rfl, in_X11⟩
theorem fq_X11_39 : FPF RX11 39 11 8 (.object "java/util/ArrayList") := ⟨RX11, TX11, 17, "UtilityBoard", tyX11, rfl, by decide, wd_284, Or.inl rfl, in_X11, tyX11_ok, nmX11, tyX11_ok 8 (by decide), rfl, rfl⟩
theorem wd_285 : Cond.fieldLink "UtilityBoard" (42 : Nat) "UtilityBoard" "seenOnes" "Ljava/util/ArrayList;" ∈ lw_ok := lw_ok_mem (tb_0 _ (List.mem_of_getElem? (i := 187) (by decide +kernel))) rfl
theorem fl_X11_42 : FL RX11 42 11 9 := ⟨RX11, TX11, 17, "UtilityBoard", rfl, by decide, wd_285, Or.inl rfl, in_X11⟩
theorem fq_X11_42 : FPF RX11 42 11 9 (.object "java/util/ArrayList") := ⟨RX11, TX11, 17, "UtilityBoard", tyX11, rfl, by decide, wd_285, Or.inl rfl, in_X11, tyX11_ok, nmX11, tyX11_ok 9 (by decide), rfl, rfl⟩
theorem wd_286 : Cond.fieldLink "UtilityBoard" (45 : Nat) "UtilityBoard" "rubbedOnes" "Ljava/util/ArrayList;" ∈ lw_ok := lw_ok_mem (tb_0 _ (List.mem_of_getElem? (i := 188) (by decide +kernel))) rfl
theorem fl_X11_45 : FL RX11 45 11 10 := ⟨RX11, TX11, 17, "UtilityBoard", rfl, by decide, wd_286, Or.inl rfl, in_X11⟩
theorem fq_X11_45 : FPF RX11 45 11 10 (.object "java/util/ArrayList") := ⟨RX11, TX11, 17, "UtilityBoard", tyX11, rfl, by decide, wd_286, Or.inl rfl, in_X11, tyX11_ok, nmX11, tyX11_ok 10 (by decide), rfl, rfl⟩
theorem wd_287 : Cond.fieldLink "UtilityBoard" (48 : Nat) "UtilityBoard" "marks" "Ljava/util/ArrayList;" ∈ lw_ok := lw_ok_mem (tb_0 _ (List.mem_of_getElem? (i := 189) (by decide +kernel))) rfl
theorem fl_X11_48 : FL RX11 48 11 11 := ⟨RX11, TX11, 17, "UtilityBoard", rfl, by decide, wd_287, Or.inl rfl, in_X11⟩
theorem fq_X11_48 : FPF RX11 48 11 11 (.object "java/util/ArrayList") := ⟨RX11, TX11, 17, "UtilityBoard", tyX11, rfl, by decide, wd_287, Or.inl rfl, in_X11, tyX11_ok, nmX11, tyX11_ok 11 (by decide), rfl, rfl⟩
theorem wd_288 : Cond.fieldLink "UtilityBoard" (51 : Nat) "UtilityBoard" "tape" "[B" ∈ lw_ok := lw_ok_mem (tb_0 _ (List.mem_of_getElem? (i := 190) (by decide +kernel))) rfl
theorem fl_X11_51 : FL RX11 51 11 12 := ⟨RX11, TX11, 17, "UtilityBoard", rfl, by decide, wd_288, Or.inl rfl, in_X11⟩
theorem fq_X11_51 : FPF RX11 51 11 12 (.array .byte) := ⟨RX11, TX11, 17, "UtilityBoard", tyX11, rfl, by decide, wd_288, Or.inl rfl, in_X11, tyX11_ok, nmX11, tyX11_ok 12 (by decide), rfl, rfl⟩
theorem wd_289 : Cond.fieldLink "UtilityBoard" (55 : Nat) "UtilityBoard" "taped" "I" ∈ lw_ok := lw_ok_mem (tb_0 _ (List.mem_of_getElem? (i := 191) (by decide +kernel))) rfl
theorem fl_X11_55 : FL RX11 55 11 13 := ⟨RX11, TX11, 17, "UtilityBoard", rfl, by decide, wd_289, Or.inl rfl, in_X11⟩
theorem fp_X11_55 : FP RX11 55 11 13 .int := ⟨RX11, TX11, 17, "UtilityBoard", tyX11, rfl, by decide, wd_289, Or.inl rfl, in_X11, tyX11_ok, nmX11, tyX11_ok 13 (by decide), rfl⟩
theorem wd_290 : Cond.fieldLink "UtilityBoard" (61 : Nat) "UtilityBoard" "reader" "LUtilityBoard$Reader;" ∈ lw_ok := lw_ok_mem (tb_0 _ (List.mem_of_getElem? (i := 192) (by decide +kernel))) rfl
theorem fl_X11_61 : FL RX11 61 11 14 := ⟨RX11, TX11, 17, "UtilityBoard", rfl, by decide, wd_290, Or.inl rfl, in_X11⟩
theorem fq_X11_61 : FPF RX11 61 11 14 (.object "UtilityBoard$Reader") := ⟨RX11, TX11, 17, "UtilityBoard", tyX11, rfl, by decide, wd_290, Or.inl rfl, in_X11, tyX11_ok, nmX11, tyX11_ok 14 (by decide), rfl, rfl⟩
theorem wd_291 : Cond.fieldLink "UtilityBoard" (68 : Nat) "UtilityBoard" "law" "LUtilityBoard$Law;" ∈ lw_ok := lw_ok_mem (tb_0 _ (List.mem_of_getElem? (i := 193) (by decide +kernel))) rfl
theorem fl_X11_68 : FL RX11 68 11 15 := ⟨RX11, TX11, 17, "UtilityBoard", rfl, by decide, wd_291, Or.inl rfl, in_X11⟩
theorem fq_X11_68 : FPF RX11 68 11 15 (.object "UtilityBoard$Law") := ⟨RX11, TX11, 17, "UtilityBoard", tyX11, rfl, by decide, wd_291, Or.inl rfl, in_X11, tyX11_ok, nmX11, tyX11_ok 15 (by decide), rfl, rfl⟩
theorem wd_292 : Cond.fieldLink "UtilityBoard" (75 : Nat) "UtilityBoard" "layout" "LUtilityBoard$Layout;" ∈ lw_ok := lw_ok_mem (tb_0 _ (List.mem_of_getElem? (i := 194) (by decide +kernel))) rfl
theorem fl_X11_75 : FL RX11 75 11 16 := ⟨RX11, TX11, 17, "UtilityBoard", rfl, by decide, wd_292, Or.inl rfl, in_X11⟩
theorem fq_X11_75 : FPF RX11 75 11 16 (.object "UtilityBoard$Layout") := ⟨RX11, TX11, 17, "UtilityBoard", tyX11, rfl, by decide, wd_292, Or.inl rfl, in_X11, tyX11_ok, nmX11, tyX11_ok 16 (by decide), rfl, rfl⟩
theorem wd_1106 : Cond.fieldLink "UtilityBoard" (100 : Nat) "UtilityBoard$Person" "points" "I" ∈ lw_ok := lw_ok_mem (tb_4 _ (List.mem_of_getElem? (i := 48) (by decide +kernel))) rfl
theorem fl_X11_100 : FL RX11 100 8 0 := ⟨RX8, TX8, 2, "UtilityBoard$Person", rfl, by decide, wd_1106, Or.inl rfl, in_X8⟩
theorem fp_X11_100 : FP RX11 100 8 0 .int := ⟨RX8, TX8, 2, "UtilityBoard$Person", tyX8, rfl, by decide, wd_1106, Or.inl rfl, in_X8, tyX8_ok, nmX8, tyX8_ok 0 (by decide), rfl⟩
theorem wd_787 : Cond.fieldLink "UtilityBoard" (108 : Nat) "UtilityBoard$Maker" "made" "I" ∈ lw_ok := lw_ok_mem (tb_2 _ (List.mem_of_getElem? (i := 209) (by decide +kernel))) rfl
theorem fl_X11_108 : FL RX11 108 6 7 := ⟨RX6, TX6, 8, "UtilityBoard$Maker", rfl, by decide, wd_787, Or.inl rfl, in_X6⟩
theorem fp_X11_108 : FP RX11 108 6 7 .int := ⟨RX6, TX6, 8, "UtilityBoard$Maker", tyX6, rfl, by decide, wd_787, Or.inl rfl, in_X6, tyX6_ok, nmX6, tyX6_ok 7 (by decide), rfl⟩
theorem wd_518 : Cond.fieldLink "UtilityBoard" (149 : Nat) "UtilityBoard$Drawing" "sticks" "I" ∈ lw_ok := lw_ok_mem (tb_1 _ (List.mem_of_getElem? (i := 180) (by decide +kernel))) rfl
theorem fl_X11_149 : FL RX11 149 2 11 := ⟨RX2, TX2, 16, "UtilityBoard$Drawing", rfl, by decide, wd_518, Or.inl rfl, in_X2⟩
theorem fp_X11_149 : FP RX11 149 2 11 .int := ⟨RX2, TX2, 16, "UtilityBoard$Drawing", tyX2, rfl, by decide, wd_518, Or.inl rfl, in_X2, tyX2_ok, nmX2, tyX2_ok 11 (by decide), rfl⟩
theorem wd_516 : Cond.fieldLink "UtilityBoard" (155 : Nat) "UtilityBoard$Drawing" "best" "[I" ∈ lw_ok := lw_ok_mem (tb_1 _ (List.mem_of_getElem? (i := 178) (by decide +kernel))) rfl
theorem fl_X11_155 : FL RX11 155 2 10 := ⟨RX2, TX2, 16, "UtilityBoard$Drawing", rfl, by decide, wd_516, Or.inl rfl, in_X2⟩
theorem wd_671 : Cond.fieldLink "UtilityBoard" (188 : Nat) "UtilityBoard$Thing" "pieces" "I" ∈ lw_ok := lw_ok_mem (tb_2 _ (List.mem_of_getElem? (i := 93) (by decide +kernel))) rfl
theorem fl_X11_188 : FL RX11 188 10 8 := ⟨RX10, TX10, 10, "UtilityBoard$Thing", rfl, by decide, wd_671, Or.inl rfl, in_X10⟩
theorem fp_X11_188 : FP RX11 188 10 8 .int := ⟨RX10, TX10, 10, "UtilityBoard$Thing", tyX10, rfl, by decide, wd_671, Or.inl rfl, in_X10, tyX10_ok, nmX10, tyX10_ok 8 (by decide), rfl⟩
theorem wd_255 : Cond.fieldLink "UtilityBoard" (195 : Nat) "UtilityBoard$Layout" "shortest" "I" ∈ lw_ok := lw_ok_mem (tb_0 _ (List.mem_of_getElem? (i := 157) (by decide +kernel))) rfl
theorem fl_X11_195 : FL RX11 195 5 4 := ⟨RX5, TX5, 8, "UtilityBoard$Layout", rfl, by decide, wd_255, Or.inl rfl, in_X5⟩
theorem fp_X11_195 : FP RX11 195 5 4 .int := ⟨RX5, TX5, 8, "UtilityBoard$Layout", tyX5, rfl, by decide, wd_255, Or.inl rfl, in_X5, tyX5_ok, nmX5, tyX5_ok 4 (by decide), rfl⟩
theorem wd_253 : Cond.fieldLink "UtilityBoard" (198 : Nat) "UtilityBoard$Layout" "row" "[I" ∈ lw_ok := lw_ok_mem (tb_0 _ (List.mem_of_getElem? (i := 155) (by decide +kernel))) rfl
theorem fl_X11_198 : FL RX11 198 5 3 := ⟨RX5, TX5, 8, "UtilityBoard$Layout", rfl, by decide, wd_253, Or.inl rfl, in_X5⟩
theorem wd_785 : Cond.fieldLink "UtilityBoard" (212 : Nat) "UtilityBoard$Maker" "named" "Z" ∈ lw_ok := lw_ok_mem (tb_2 _ (List.mem_of_getElem? (i := 207) (by decide +kernel))) rfl
theorem fl_X11_212 : FL RX11 212 6 6 := ⟨RX6, TX6, 8, "UtilityBoard$Maker", rfl, by decide, wd_785, Or.inl rfl, in_X6⟩
theorem fp_X11_212 : FP RX11 212 6 6 .boolean := ⟨RX6, TX6, 8, "UtilityBoard$Maker", tyX6, rfl, by decide, wd_785, Or.inl rfl, in_X6, tyX6_ok, nmX6, tyX6_ok 6 (by decide), rfl⟩
theorem wd_782 : Cond.fieldLink "UtilityBoard" (216 : Nat) "UtilityBoard$Maker" "yards" "[I" ∈ lw_ok := lw_ok_mem (tb_2 _ (List.mem_of_getElem? (i := 204) (by decide +kernel))) rfl
theorem fl_X11_216 : FL RX11 216 6 5 := ⟨RX6, TX6, 8, "UtilityBoard$Maker", rfl, by decide, wd_782, Or.inl rfl, in_X6⟩
theorem wd_218 : Cond.fieldLink "UtilityBoard" (222 : Nat) "UtilityBoard$Law" "orders" "Ljava/util/ArrayList;" ∈ lw_ok := lw_ok_mem (tb_0 _ (List.mem_of_getElem? (i := 120) (by decide +kernel))) rfl
theorem fl_X11_222 : FL RX11 222 4 0 := ⟨RX4, TX4, 8, "UtilityBoard$Law", rfl, by decide, wd_218, Or.inl rfl, in_X4⟩
theorem wd_664 : Cond.fieldLink "UtilityBoard" (260 : Nat) "UtilityBoard$Thing" "shops" "[I" ∈ lw_ok := lw_ok_mem (tb_2 _ (List.mem_of_getElem? (i := 86) (by decide +kernel))) rfl
theorem fl_X11_260 : FL RX11 260 10 5 := ⟨RX10, TX10, 10, "UtilityBoard$Thing", rfl, by decide, wd_664, Or.inl rfl, in_X10⟩
theorem wd_653 : Cond.fieldLink "UtilityBoard" (267 : Nat) "UtilityBoard$Thing" "kind" "I" ∈ lw_ok := lw_ok_mem (tb_2 _ (List.mem_of_getElem? (i := 75) (by decide +kernel))) rfl
theorem fl_X11_267 : FL RX11 267 10 0 := ⟨RX10, TX10, 10, "UtilityBoard$Thing", rfl, by decide, wd_653, Or.inl rfl, in_X10⟩
theorem wd_655 : Cond.fieldLink "UtilityBoard" (270 : Nat) "UtilityBoard$Thing" "of" "I" ∈ lw_ok := lw_ok_mem (tb_2 _ (List.mem_of_getElem? (i := 77) (by decide +kernel))) rfl
theorem fl_X11_270 : FL RX11 270 10 1 := ⟨RX10, TX10, 10, "UtilityBoard$Thing", rfl, by decide, wd_655, Or.inl rfl, in_X10⟩
theorem wd_673 : Cond.fieldLink "UtilityBoard" (284 : Nat) "UtilityBoard$Thing" "price" "I" ∈ lw_ok := lw_ok_mem (tb_2 _ (List.mem_of_getElem? (i := 95) (by decide +kernel))) rfl
theorem fl_X11_284 : FL RX11 284 10 9 := ⟨RX10, TX10, 10, "UtilityBoard$Thing", rfl, by decide, wd_673, Or.inl rfl, in_X10⟩
theorem fp_X11_284 : FP RX11 284 10 9 .int := ⟨RX10, TX10, 10, "UtilityBoard$Thing", tyX10, rfl, by decide, wd_673, Or.inl rfl, in_X10, tyX10_ok, nmX10, tyX10_ok 9 (by decide), rfl⟩
theorem wd_1108 : Cond.fieldLink "UtilityBoard" (295 : Nat) "UtilityBoard$Person" "purse" "I" ∈ lw_ok := lw_ok_mem (tb_4 _ (List.mem_of_getElem? (i := 50) (by decide +kernel))) rfl
theorem fl_X11_295 : FL RX11 295 8 1 := ⟨RX8, TX8, 2, "UtilityBoard$Person", rfl, by decide, wd_1108, Or.inl rfl, in_X8⟩
theorem fp_X11_295 : FP RX11 295 8 1 .int := ⟨RX8, TX8, 2, "UtilityBoard$Person", tyX8, rfl, by decide, wd_1108, Or.inl rfl, in_X8, tyX8_ok, nmX8, tyX8_ok 1 (by decide), rfl⟩
theorem wd_1157 : Cond.fieldLink "UtilityBoard" (307 : Nat) "UtilityBoard$Docket" "open" "Z" ∈ lw_ok := lw_ok_mem (tb_4 _ (List.mem_of_getElem? (i := 99) (by decide +kernel))) rfl
theorem fl_X11_307 : FL RX11 307 1 4 := ⟨RX1, TX1, 5, "UtilityBoard$Docket", rfl, by decide, wd_1157, Or.inl rfl, in_X1⟩
theorem fp_X11_307 : FP RX11 307 1 4 .boolean := ⟨RX1, TX1, 5, "UtilityBoard$Docket", tyX1, rfl, by decide, wd_1157, Or.inl rfl, in_X1, tyX1_ok, nmX1, tyX1_ok 4 (by decide), rfl⟩
theorem wd_1152 : Cond.fieldLink "UtilityBoard" (310 : Nat) "UtilityBoard$Docket" "thing" "I" ∈ lw_ok := lw_ok_mem (tb_4 _ (List.mem_of_getElem? (i := 94) (by decide +kernel))) rfl
theorem fl_X11_310 : FL RX11 310 1 1 := ⟨RX1, TX1, 5, "UtilityBoard$Docket", rfl, by decide, wd_1152, Or.inl rfl, in_X1⟩
theorem wd_1150 : Cond.fieldLink "UtilityBoard" (317 : Nat) "UtilityBoard$Docket" "person" "I" ∈ lw_ok := lw_ok_mem (tb_4 _ (List.mem_of_getElem? (i := 92) (by decide +kernel))) rfl
theorem fl_X11_317 : FL RX11 317 1 0 := ⟨RX1, TX1, 5, "UtilityBoard$Docket", rfl, by decide, wd_1150, Or.inl rfl, in_X1⟩
theorem wd_1155 : Cond.fieldLink "UtilityBoard" (320 : Nat) "UtilityBoard$Docket" "weight" "I" ∈ lw_ok := lw_ok_mem (tb_4 _ (List.mem_of_getElem? (i := 97) (by decide +kernel))) rfl
theorem fl_X11_320 : FL RX11 320 1 3 := ⟨RX1, TX1, 5, "UtilityBoard$Docket", rfl, by decide, wd_1155, Or.inl rfl, in_X1⟩
theorem fp_X11_320 : FP RX11 320 1 3 .int := ⟨RX1, TX1, 5, "UtilityBoard$Docket", tyX1, rfl, by decide, wd_1155, Or.inl rfl, in_X1, tyX1_ok, nmX1, tyX1_ok 3 (by decide), rfl⟩
theorem wd_1080 : Cond.fieldLink "UtilityBoard" (323 : Nat) "UtilityBoard$Entry" "of" "I" ∈ lw_ok := lw_ok_mem (tb_4 _ (List.mem_of_getElem? (i := 22) (by decide +kernel))) rfl
theorem fl_X11_323 : FL RX11 323 3 0 := ⟨RX3, TX3, 4, "UtilityBoard$Entry", rfl, by decide, wd_1080, Or.inl rfl, in_X3⟩
theorem wd_1086 : Cond.fieldLink "UtilityBoard" (324 : Nat) "UtilityBoard$Entry" "n" "I" ∈ lw_ok := lw_ok_mem (tb_4 _ (List.mem_of_getElem? (i := 28) (by decide +kernel))) rfl
theorem fl_X11_324 : FL RX11 324 3 3 := ⟨RX3, TX3, 4, "UtilityBoard$Entry", rfl, by decide, wd_1086, Or.inl rfl, in_X3⟩
theorem wd_1084 : Cond.fieldLink "UtilityBoard" (327 : Nat) "UtilityBoard$Entry" "week" "I" ∈ lw_ok := lw_ok_mem (tb_4 _ (List.mem_of_getElem? (i := 26) (by decide +kernel))) rfl
theorem fl_X11_327 : FL RX11 327 3 2 := ⟨RX3, TX3, 4, "UtilityBoard$Entry", rfl, by decide, wd_1084, Or.inl rfl, in_X3⟩
theorem wd_428 : Cond.fieldLink "UtilityBoard" (333 : Nat) "UtilityBoard$Cloth" "wear" "I" ∈ lw_ok := lw_ok_mem (tb_1 _ (List.mem_of_getElem? (i := 90) (by decide +kernel))) rfl
theorem fl_X11_333 : FL RX11 333 0 1 := ⟨RX0, TX0, 3, "UtilityBoard$Cloth", rfl, by decide, wd_428, Or.inl rfl, in_X0⟩
theorem wd_1082 : Cond.fieldLink "UtilityBoard" (336 : Nat) "UtilityBoard$Entry" "by" "I" ∈ lw_ok := lw_ok_mem (tb_4 _ (List.mem_of_getElem? (i := 24) (by decide +kernel))) rfl
theorem fl_X11_336 : FL RX11 336 3 1 := ⟨RX3, TX3, 4, "UtilityBoard$Entry", rfl, by decide, wd_1082, Or.inl rfl, in_X3⟩
theorem wd_780 : Cond.fieldLink "UtilityBoard" (357 : Nat) "UtilityBoard$Maker" "hire" "I" ∈ lw_ok := lw_ok_mem (tb_2 _ (List.mem_of_getElem? (i := 202) (by decide +kernel))) rfl
theorem fl_X11_357 : FL RX11 357 6 4 := ⟨RX6, TX6, 8, "UtilityBoard$Maker", rfl, by decide, wd_780, Or.inl rfl, in_X6⟩
theorem wd_778 : Cond.fieldLink "UtilityBoard" (360 : Nat) "UtilityBoard$Maker" "rate" "I" ∈ lw_ok := lw_ok_mem (tb_2 _ (List.mem_of_getElem? (i := 200) (by decide +kernel))) rfl
theorem fl_X11_360 : FL RX11 360 6 3 := ⟨RX6, TX6, 8, "UtilityBoard$Maker", rfl, by decide, wd_778, Or.inl rfl, in_X6⟩
theorem wd_998 : Cond.fieldLink "UtilityBoard" (370 : Nat) "UtilityBoard$Order" "clauses" "I" ∈ lw_ok := lw_ok_mem (tb_3 _ (List.mem_of_getElem? (i := 180) (by decide +kernel))) rfl
theorem fl_X11_370 : FL RX11 370 7 3 := ⟨RX7, TX7, 9, "UtilityBoard$Order", rfl, by decide, wd_998, Or.inl rfl, in_X7⟩
theorem wd_662 : Cond.fieldLink "UtilityBoard" (376 : Nat) "UtilityBoard$Thing" "inches" "I" ∈ lw_ok := lw_ok_mem (tb_2 _ (List.mem_of_getElem? (i := 84) (by decide +kernel))) rfl
theorem fl_X11_376 : FL RX11 376 10 4 := ⟨RX10, TX10, 10, "UtilityBoard$Thing", rfl, by decide, wd_662, Or.inl rfl, in_X10⟩
theorem wd_425 : Cond.fieldLink "UtilityBoard" (379 : Nat) "UtilityBoard$Cloth" "number" "I" ∈ lw_ok := lw_ok_mem (tb_1 _ (List.mem_of_getElem? (i := 87) (by decide +kernel))) rfl
theorem fl_X11_379 : FL RX11 379 0 0 := ⟨RX0, TX0, 3, "UtilityBoard$Cloth", rfl, by decide, wd_425, Or.inl rfl, in_X0⟩
theorem wd_773 : Cond.fieldLink "UtilityBoard" (382 : Nat) "UtilityBoard$Maker" "plant" "I" ∈ lw_ok := lw_ok_mem (tb_2 _ (List.mem_of_getElem? (i := 195) (by decide +kernel))) rfl
theorem fl_X11_382 : FL RX11 382 6 1 := ⟨RX6, TX6, 8, "UtilityBoard$Maker", rfl, by decide, wd_773, Or.inl rfl, in_X6⟩
theorem wd_776 : Cond.fieldLink "UtilityBoard" (385 : Nat) "UtilityBoard$Maker" "hands" "I" ∈ lw_ok := lw_ok_mem (tb_2 _ (List.mem_of_getElem? (i := 198) (by decide +kernel))) rfl
theorem fl_X11_385 : FL RX11 385 6 2 := ⟨RX6, TX6, 8, "UtilityBoard$Maker", rfl, by decide, wd_776, Or.inl rfl, in_X6⟩
theorem wd_771 : Cond.fieldLink "UtilityBoard" (392 : Nat) "UtilityBoard$Maker" "town" "I" ∈ lw_ok := lw_ok_mem (tb_2 _ (List.mem_of_getElem? (i := 193) (by decide +kernel))) rfl
theorem fl_X11_392 : FL RX11 392 6 0 := ⟨RX6, TX6, 8, "UtilityBoard$Maker", rfl, by decide, wd_771, Or.inl rfl, in_X6⟩
theorem wd_423 : Cond.fieldLink "UtilityBoard$Cloth" (7 : Nat) "UtilityBoard$Cloth" "number" "I" ∈ lw_ok := lw_ok_mem (tb_1 _ (List.mem_of_getElem? (i := 85) (by decide +kernel))) rfl
theorem fl_X0_7 : FL RX0 7 0 0 := ⟨RX0, TX0, 3, "UtilityBoard$Cloth", rfl, by decide, wd_423, Or.inl rfl, in_X0⟩
theorem fq_X0_7 : FPF RX0 7 0 0 .int := ⟨RX0, TX0, 3, "UtilityBoard$Cloth", tyX0, rfl, by decide, wd_423, Or.inl rfl, in_X0, tyX0_ok, nmX0, tyX0_ok 0 (by decide), rfl, rfl⟩
theorem wd_426 : Cond.fieldLink "UtilityBoard$Cloth" (13 : Nat) "UtilityBoard$Cloth" "wear" "I" ∈ lw_ok := lw_ok_mem (tb_1 _ (List.mem_of_getElem? (i := 88) (by decide +kernel))) rfl
theorem fl_X0_13 : FL RX0 13 0 1 := ⟨RX0, TX0, 3, "UtilityBoard$Cloth", rfl, by decide, wd_426, Or.inl rfl, in_X0⟩
theorem fq_X0_13 : FPF RX0 13 0 1 .int := ⟨RX0, TX0, 3, "UtilityBoard$Cloth", tyX0, rfl, by decide, wd_426, Or.inl rfl, in_X0, tyX0_ok, nmX0, tyX0_ok 1 (by decide), rfl, rfl⟩
theorem wd_429 : Cond.fieldLink "UtilityBoard$Cloth" (16 : Nat) "UtilityBoard$Cloth" "cost" "I" ∈ lw_ok := lw_ok_mem (tb_1 _ (List.mem_of_getElem? (i := 91) (by decide +kernel))) rfl
theorem fl_X0_16 : FL RX0 16 0 2 := ⟨RX0, TX0, 3, "UtilityBoard$Cloth", rfl, by decide, wd_429, Or.inl rfl, in_X0⟩
theorem fq_X0_16 : FPF RX0 16 0 2 .int := ⟨RX0, TX0, 3, "UtilityBoard$Cloth", tyX0, rfl, by decide, wd_429, Or.inl rfl, in_X0, tyX0_ok, nmX0, tyX0_ok 2 (by decide), rfl, rfl⟩
theorem wd_1156 : Cond.fieldLink "UtilityBoard$Docket" (7 : Nat) "UtilityBoard$Docket" "open" "Z" ∈ lw_ok := lw_ok_mem (tb_4 _ (List.mem_of_getElem? (i := 98) (by decide +kernel))) rfl
theorem fl_X1_7 : FL RX1 7 1 4 := ⟨RX1, TX1, 5, "UtilityBoard$Docket", rfl, by decide, wd_1156, Or.inl rfl, in_X1⟩
theorem fp_X1_7 : FP RX1 7 1 4 .boolean := ⟨RX1, TX1, 5, "UtilityBoard$Docket", tyX1, rfl, by decide, wd_1156, Or.inl rfl, in_X1, tyX1_ok, nmX1, tyX1_ok 4 (by decide), rfl⟩
theorem wd_1149 : Cond.fieldLink "UtilityBoard$Docket" (13 : Nat) "UtilityBoard$Docket" "person" "I" ∈ lw_ok := lw_ok_mem (tb_4 _ (List.mem_of_getElem? (i := 91) (by decide +kernel))) rfl
theorem fl_X1_13 : FL RX1 13 1 0 := ⟨RX1, TX1, 5, "UtilityBoard$Docket", rfl, by decide, wd_1149, Or.inl rfl, in_X1⟩
theorem fq_X1_13 : FPF RX1 13 1 0 .int := ⟨RX1, TX1, 5, "UtilityBoard$Docket", tyX1, rfl, by decide, wd_1149, Or.inl rfl, in_X1, tyX1_ok, nmX1, tyX1_ok 0 (by decide), rfl, rfl⟩
theorem wd_1151 : Cond.fieldLink "UtilityBoard$Docket" (17 : Nat) "UtilityBoard$Docket" "thing" "I" ∈ lw_ok := lw_ok_mem (tb_4 _ (List.mem_of_getElem? (i := 93) (by decide +kernel))) rfl
theorem fl_X1_17 : FL RX1 17 1 1 := ⟨RX1, TX1, 5, "UtilityBoard$Docket", rfl, by decide, wd_1151, Or.inl rfl, in_X1⟩
theorem fq_X1_17 : FPF RX1 17 1 1 .int := ⟨RX1, TX1, 5, "UtilityBoard$Docket", tyX1, rfl, by decide, wd_1151, Or.inl rfl, in_X1, tyX1_ok, nmX1, tyX1_ok 1 (by decide), rfl, rfl⟩
theorem wd_1153 : Cond.fieldLink "UtilityBoard$Docket" (20 : Nat) "UtilityBoard$Docket" "since" "I" ∈ lw_ok := lw_ok_mem (tb_4 _ (List.mem_of_getElem? (i := 95) (by decide +kernel))) rfl
theorem fl_X1_20 : FL RX1 20 1 2 := ⟨RX1, TX1, 5, "UtilityBoard$Docket", rfl, by decide, wd_1153, Or.inl rfl, in_X1⟩
theorem fq_X1_20 : FPF RX1 20 1 2 .int := ⟨RX1, TX1, 5, "UtilityBoard$Docket", tyX1, rfl, by decide, wd_1153, Or.inl rfl, in_X1, tyX1_ok, nmX1, tyX1_ok 2 (by decide), rfl, rfl⟩
theorem wd_1154 : Cond.fieldLink "UtilityBoard$Docket" (23 : Nat) "UtilityBoard$Docket" "weight" "I" ∈ lw_ok := lw_ok_mem (tb_4 _ (List.mem_of_getElem? (i := 96) (by decide +kernel))) rfl
theorem fl_X1_23 : FL RX1 23 1 3 := ⟨RX1, TX1, 5, "UtilityBoard$Docket", rfl, by decide, wd_1154, Or.inl rfl, in_X1⟩
theorem fp_X1_23 : FP RX1 23 1 3 .int := ⟨RX1, TX1, 5, "UtilityBoard$Docket", tyX1, rfl, by decide, wd_1154, Or.inl rfl, in_X1, tyX1_ok, nmX1, tyX1_ok 3 (by decide), rfl⟩
theorem wd_506 : Cond.fieldLink "UtilityBoard$Drawing" (11 : Nat) "UtilityBoard$Drawing" "oneEnd" "[I" ∈ lw_ok := lw_ok_mem (tb_1 _ (List.mem_of_getElem? (i := 168) (by decide +kernel))) rfl
theorem fl_X2_11 : FL RX2 11 2 1 := ⟨RX2, TX2, 16, "UtilityBoard$Drawing", rfl, by decide, wd_506, Or.inl rfl, in_X2⟩
theorem fq_X2_11 : FPF RX2 11 2 1 (.array .int) := ⟨RX2, TX2, 16, "UtilityBoard$Drawing", tyX2, rfl, by decide, wd_506, Or.inl rfl, in_X2, tyX2_ok, nmX2, tyX2_ok 1 (by decide), rfl, rfl⟩
theorem wd_507 : Cond.fieldLink "UtilityBoard$Drawing" (15 : Nat) "UtilityBoard$Drawing" "otherEnd" "[I" ∈ lw_ok := lw_ok_mem (tb_1 _ (List.mem_of_getElem? (i := 169) (by decide +kernel))) rfl
theorem fl_X2_15 : FL RX2 15 2 2 := ⟨RX2, TX2, 16, "UtilityBoard$Drawing", rfl, by decide, wd_507, Or.inl rfl, in_X2⟩
theorem fq_X2_15 : FPF RX2 15 2 2 (.array .int) := ⟨RX2, TX2, 16, "UtilityBoard$Drawing", tyX2, rfl, by decide, wd_507, Or.inl rfl, in_X2, tyX2_ok, nmX2, tyX2_ok 2 (by decide), rfl, rfl⟩
theorem wd_508 : Cond.fieldLink "UtilityBoard$Drawing" (18 : Nat) "UtilityBoard$Drawing" "timbers" "[I" ∈ lw_ok := lw_ok_mem (tb_1 _ (List.mem_of_getElem? (i := 170) (by decide +kernel))) rfl
theorem fl_X2_18 : FL RX2 18 2 3 := ⟨RX2, TX2, 16, "UtilityBoard$Drawing", rfl, by decide, wd_508, Or.inl rfl, in_X2⟩
theorem fq_X2_18 : FPF RX2 18 2 3 (.array .int) := ⟨RX2, TX2, 16, "UtilityBoard$Drawing", tyX2, rfl, by decide, wd_508, Or.inl rfl, in_X2, tyX2_ok, nmX2, tyX2_ok 3 (by decide), rfl, rfl⟩
theorem wd_509 : Cond.fieldLink "UtilityBoard$Drawing" (21 : Nat) "UtilityBoard$Drawing" "loadJoints" "[I" ∈ lw_ok := lw_ok_mem (tb_1 _ (List.mem_of_getElem? (i := 171) (by decide +kernel))) rfl
theorem fl_X2_21 : FL RX2 21 2 4 := ⟨RX2, TX2, 16, "UtilityBoard$Drawing", rfl, by decide, wd_509, Or.inl rfl, in_X2⟩
theorem fq_X2_21 : FPF RX2 21 2 4 (.array .int) := ⟨RX2, TX2, 16, "UtilityBoard$Drawing", tyX2, rfl, by decide, wd_509, Or.inl rfl, in_X2, tyX2_ok, nmX2, tyX2_ok 4 (by decide), rfl, rfl⟩
theorem wd_510 : Cond.fieldLink "UtilityBoard$Drawing" (24 : Nat) "UtilityBoard$Drawing" "loadPounds" "[I" ∈ lw_ok := lw_ok_mem (tb_1 _ (List.mem_of_getElem? (i := 172) (by decide +kernel))) rfl
theorem fl_X2_24 : FL RX2 24 2 5 := ⟨RX2, TX2, 16, "UtilityBoard$Drawing", rfl, by decide, wd_510, Or.inl rfl, in_X2⟩
theorem fq_X2_24 : FPF RX2 24 2 5 (.array .int) := ⟨RX2, TX2, 16, "UtilityBoard$Drawing", tyX2, rfl, by decide, wd_510, Or.inl rfl, in_X2, tyX2_ok, nmX2, tyX2_ok 5 (by decide), rfl, rfl⟩
theorem wd_511 : Cond.fieldLink "UtilityBoard$Drawing" (27 : Nat) "UtilityBoard$Drawing" "cutSticks" "[I" ∈ lw_ok := lw_ok_mem (tb_1 _ (List.mem_of_getElem? (i := 173) (by decide +kernel))) rfl
theorem fl_X2_27 : FL RX2 27 2 6 := ⟨RX2, TX2, 16, "UtilityBoard$Drawing", rfl, by decide, wd_511, Or.inl rfl, in_X2⟩
theorem fq_X2_27 : FPF RX2 27 2 6 (.array .int) := ⟨RX2, TX2, 16, "UtilityBoard$Drawing", tyX2, rfl, by decide, wd_511, Or.inl rfl, in_X2, tyX2_ok, nmX2, tyX2_ok 6 (by decide), rfl, rfl⟩
theorem wd_512 : Cond.fieldLink "UtilityBoard$Drawing" (30 : Nat) "UtilityBoard$Drawing" "cutNeeds" "[I" ∈ lw_ok := lw_ok_mem (tb_1 _ (List.mem_of_getElem? (i := 174) (by decide +kernel))) rfl
theorem fl_X2_30 : FL RX2 30 2 7 := ⟨RX2, TX2, 16, "UtilityBoard$Drawing", rfl, by decide, wd_512, Or.inl rfl, in_X2⟩
theorem fq_X2_30 : FPF RX2 30 2 7 (.array .int) := ⟨RX2, TX2, 16, "UtilityBoard$Drawing", tyX2, rfl, by decide, wd_512, Or.inl rfl, in_X2, tyX2_ok, nmX2, tyX2_ok 7 (by decide), rfl, rfl⟩
theorem wd_513 : Cond.fieldLink "UtilityBoard$Drawing" (33 : Nat) "UtilityBoard$Drawing" "cutSpare" "[I" ∈ lw_ok := lw_ok_mem (tb_1 _ (List.mem_of_getElem? (i := 175) (by decide +kernel))) rfl
theorem fl_X2_33 : FL RX2 33 2 8 := ⟨RX2, TX2, 16, "UtilityBoard$Drawing", rfl, by decide, wd_513, Or.inl rfl, in_X2⟩
theorem fq_X2_33 : FPF RX2 33 2 8 (.array .int) := ⟨RX2, TX2, 16, "UtilityBoard$Drawing", tyX2, rfl, by decide, wd_513, Or.inl rfl, in_X2, tyX2_ok, nmX2, tyX2_ok 8 (by decide), rfl, rfl⟩
theorem wd_514 : Cond.fieldLink "UtilityBoard$Drawing" (36 : Nat) "UtilityBoard$Drawing" "trial" "[I" ∈ lw_ok := lw_ok_mem (tb_1 _ (List.mem_of_getElem? (i := 176) (by decide +kernel))) rfl
theorem fl_X2_36 : FL RX2 36 2 9 := ⟨RX2, TX2, 16, "UtilityBoard$Drawing", rfl, by decide, wd_514, Or.inl rfl, in_X2⟩
theorem fq_X2_36 : FPF RX2 36 2 9 (.array .int) := ⟨RX2, TX2, 16, "UtilityBoard$Drawing", tyX2, rfl, by decide, wd_514, Or.inl rfl, in_X2, tyX2_ok, nmX2, tyX2_ok 9 (by decide), rfl, rfl⟩
theorem wd_515 : Cond.fieldLink "UtilityBoard$Drawing" (39 : Nat) "UtilityBoard$Drawing" "best" "[I" ∈ lw_ok := lw_ok_mem (tb_1 _ (List.mem_of_getElem? (i := 177) (by decide +kernel))) rfl
theorem fl_X2_39 : FL RX2 39 2 10 := ⟨RX2, TX2, 16, "UtilityBoard$Drawing", rfl, by decide, wd_515, Or.inl rfl, in_X2⟩
theorem fq_X2_39 : FPF RX2 39 2 10 (.array .int) := ⟨RX2, TX2, 16, "UtilityBoard$Drawing", tyX2, rfl, by decide, wd_515, Or.inl rfl, in_X2, tyX2_ok, nmX2, tyX2_ok 10 (by decide), rfl, rfl⟩
theorem wd_517 : Cond.fieldLink "UtilityBoard$Drawing" (42 : Nat) "UtilityBoard$Drawing" "sticks" "I" ∈ lw_ok := lw_ok_mem (tb_1 _ (List.mem_of_getElem? (i := 179) (by decide +kernel))) rfl
theorem fl_X2_42 : FL RX2 42 2 11 := ⟨RX2, TX2, 16, "UtilityBoard$Drawing", rfl, by decide, wd_517, Or.inl rfl, in_X2⟩
theorem fp_X2_42 : FP RX2 42 2 11 .int := ⟨RX2, TX2, 16, "UtilityBoard$Drawing", tyX2, rfl, by decide, wd_517, Or.inl rfl, in_X2, tyX2_ok, nmX2, tyX2_ok 11 (by decide), rfl⟩
theorem wd_519 : Cond.fieldLink "UtilityBoard$Drawing" (46 : Nat) "UtilityBoard$Drawing" "loads" "I" ∈ lw_ok := lw_ok_mem (tb_1 _ (List.mem_of_getElem? (i := 181) (by decide +kernel))) rfl
theorem fl_X2_46 : FL RX2 46 2 12 := ⟨RX2, TX2, 16, "UtilityBoard$Drawing", rfl, by decide, wd_519, Or.inl rfl, in_X2⟩
theorem fp_X2_46 : FP RX2 46 2 12 .int := ⟨RX2, TX2, 16, "UtilityBoard$Drawing", tyX2, rfl, by decide, wd_519, Or.inl rfl, in_X2, tyX2_ok, nmX2, tyX2_ok 12 (by decide), rfl⟩
theorem wd_520 : Cond.fieldLink "UtilityBoard$Drawing" (49 : Nat) "UtilityBoard$Drawing" "cuts" "I" ∈ lw_ok := lw_ok_mem (tb_1 _ (List.mem_of_getElem? (i := 182) (by decide +kernel))) rfl
theorem fl_X2_49 : FL RX2 49 2 13 := ⟨RX2, TX2, 16, "UtilityBoard$Drawing", rfl, by decide, wd_520, Or.inl rfl, in_X2⟩
theorem fp_X2_49 : FP RX2 49 2 13 .int := ⟨RX2, TX2, 16, "UtilityBoard$Drawing", tyX2, rfl, by decide, wd_520, Or.inl rfl, in_X2, tyX2_ok, nmX2, tyX2_ok 13 (by decide), rfl⟩
theorem wd_521 : Cond.fieldLink "UtilityBoard$Drawing" (52 : Nat) "UtilityBoard$Drawing" "bestInches" "I" ∈ lw_ok := lw_ok_mem (tb_1 _ (List.mem_of_getElem? (i := 183) (by decide +kernel))) rfl
theorem fl_X2_52 : FL RX2 52 2 14 := ⟨RX2, TX2, 16, "UtilityBoard$Drawing", rfl, by decide, wd_521, Or.inl rfl, in_X2⟩
theorem fp_X2_52 : FP RX2 52 2 14 .int := ⟨RX2, TX2, 16, "UtilityBoard$Drawing", tyX2, rfl, by decide, wd_521, Or.inl rfl, in_X2, tyX2_ok, nmX2, tyX2_ok 14 (by decide), rfl⟩
theorem wd_522 : Cond.fieldLink "UtilityBoard$Drawing" (55 : Nat) "UtilityBoard$Drawing" "searched" "Z" ∈ lw_ok := lw_ok_mem (tb_1 _ (List.mem_of_getElem? (i := 184) (by decide +kernel))) rfl
theorem fl_X2_55 : FL RX2 55 2 15 := ⟨RX2, TX2, 16, "UtilityBoard$Drawing", rfl, by decide, wd_522, Or.inl rfl, in_X2⟩
theorem fp_X2_55 : FP RX2 55 2 15 .boolean := ⟨RX2, TX2, 16, "UtilityBoard$Drawing", tyX2, rfl, by decide, wd_522, Or.inl rfl, in_X2, tyX2_ok, nmX2, tyX2_ok 15 (by decide), rfl⟩
theorem wd_505 : Cond.fieldLink "UtilityBoard$Drawing" (59 : Nat) "UtilityBoard$Drawing" "joints" "I" ∈ lw_ok := lw_ok_mem (tb_1 _ (List.mem_of_getElem? (i := 167) (by decide +kernel))) rfl
theorem fl_X2_59 : FL RX2 59 2 0 := ⟨RX2, TX2, 16, "UtilityBoard$Drawing", rfl, by decide, wd_505, Or.inl rfl, in_X2⟩
theorem fq_X2_59 : FPF RX2 59 2 0 .int := ⟨RX2, TX2, 16, "UtilityBoard$Drawing", tyX2, rfl, by decide, wd_505, Or.inl rfl, in_X2, tyX2_ok, nmX2, tyX2_ok 0 (by decide), rfl, rfl⟩
theorem wd_1079 : Cond.fieldLink "UtilityBoard$Entry" (7 : Nat) "UtilityBoard$Entry" "of" "I" ∈ lw_ok := lw_ok_mem (tb_4 _ (List.mem_of_getElem? (i := 21) (by decide +kernel))) rfl
theorem fl_X3_7 : FL RX3 7 3 0 := ⟨RX3, TX3, 4, "UtilityBoard$Entry", rfl, by decide, wd_1079, Or.inl rfl, in_X3⟩
theorem fq_X3_7 : FPF RX3 7 3 0 .int := ⟨RX3, TX3, 4, "UtilityBoard$Entry", tyX3, rfl, by decide, wd_1079, Or.inl rfl, in_X3, tyX3_ok, nmX3, tyX3_ok 0 (by decide), rfl, rfl⟩
theorem wd_1081 : Cond.fieldLink "UtilityBoard$Entry" (13 : Nat) "UtilityBoard$Entry" "by" "I" ∈ lw_ok := lw_ok_mem (tb_4 _ (List.mem_of_getElem? (i := 23) (by decide +kernel))) rfl
theorem fl_X3_13 : FL RX3 13 3 1 := ⟨RX3, TX3, 4, "UtilityBoard$Entry", rfl, by decide, wd_1081, Or.inl rfl, in_X3⟩
theorem fq_X3_13 : FPF RX3 13 3 1 .int := ⟨RX3, TX3, 4, "UtilityBoard$Entry", tyX3, rfl, by decide, wd_1081, Or.inl rfl, in_X3, tyX3_ok, nmX3, tyX3_ok 1 (by decide), rfl, rfl⟩
theorem wd_1083 : Cond.fieldLink "UtilityBoard$Entry" (16 : Nat) "UtilityBoard$Entry" "week" "I" ∈ lw_ok := lw_ok_mem (tb_4 _ (List.mem_of_getElem? (i := 25) (by decide +kernel))) rfl
theorem fl_X3_16 : FL RX3 16 3 2 := ⟨RX3, TX3, 4, "UtilityBoard$Entry", rfl, by decide, wd_1083, Or.inl rfl, in_X3⟩
theorem fq_X3_16 : FPF RX3 16 3 2 .int := ⟨RX3, TX3, 4, "UtilityBoard$Entry", tyX3, rfl, by decide, wd_1083, Or.inl rfl, in_X3, tyX3_ok, nmX3, tyX3_ok 2 (by decide), rfl, rfl⟩
theorem wd_1085 : Cond.fieldLink "UtilityBoard$Entry" (19 : Nat) "UtilityBoard$Entry" "n" "I" ∈ lw_ok := lw_ok_mem (tb_4 _ (List.mem_of_getElem? (i := 27) (by decide +kernel))) rfl
theorem fl_X3_19 : FL RX3 19 3 3 := ⟨RX3, TX3, 4, "UtilityBoard$Entry", rfl, by decide, wd_1085, Or.inl rfl, in_X3⟩
theorem fq_X3_19 : FPF RX3 19 3 3 .int := ⟨RX3, TX3, 4, "UtilityBoard$Entry", tyX3, rfl, by decide, wd_1085, Or.inl rfl, in_X3, tyX3_ok, nmX3, tyX3_ok 3 (by decide), rfl, rfl⟩
theorem wd_217 : Cond.fieldLink "UtilityBoard$Law" (12 : Nat) "UtilityBoard$Law" "orders" "Ljava/util/ArrayList;" ∈ lw_ok := lw_ok_mem (tb_0 _ (List.mem_of_getElem? (i := 119) (by decide +kernel))) rfl
theorem fl_X4_12 : FL RX4 12 4 0 := ⟨RX4, TX4, 8, "UtilityBoard$Law", rfl, by decide, wd_217, Or.inl rfl, in_X4⟩
theorem fq_X4_12 : FPF RX4 12 4 0 (.object "java/util/ArrayList") := ⟨RX4, TX4, 8, "UtilityBoard$Law", tyX4, rfl, by decide, wd_217, Or.inl rfl, in_X4, tyX4_ok, nmX4, tyX4_ok 0 (by decide), rfl, rfl⟩
theorem wd_219 : Cond.fieldLink "UtilityBoard$Law" (18 : Nat) "UtilityBoard$Law" "counting" "[I" ∈ lw_ok := lw_ok_mem (tb_0 _ (List.mem_of_getElem? (i := 121) (by decide +kernel))) rfl
theorem fl_X4_18 : FL RX4 18 4 1 := ⟨RX4, TX4, 8, "UtilityBoard$Law", rfl, by decide, wd_219, Or.inl rfl, in_X4⟩
theorem fq_X4_18 : FPF RX4 18 4 1 (.array .int) := ⟨RX4, TX4, 8, "UtilityBoard$Law", tyX4, rfl, by decide, wd_219, Or.inl rfl, in_X4, tyX4_ok, nmX4, tyX4_ok 1 (by decide), rfl, rfl⟩
theorem wd_220 : Cond.fieldLink "UtilityBoard$Law" (22 : Nat) "UtilityBoard$Law" "letters" "[I" ∈ lw_ok := lw_ok_mem (tb_0 _ (List.mem_of_getElem? (i := 122) (by decide +kernel))) rfl
theorem fl_X4_22 : FL RX4 22 4 2 := ⟨RX4, TX4, 8, "UtilityBoard$Law", rfl, by decide, wd_220, Or.inl rfl, in_X4⟩
theorem fq_X4_22 : FPF RX4 22 4 2 (.array .int) := ⟨RX4, TX4, 8, "UtilityBoard$Law", tyX4, rfl, by decide, wd_220, Or.inl rfl, in_X4, tyX4_ok, nmX4, tyX4_ok 2 (by decide), rfl, rfl⟩
theorem wd_221 : Cond.fieldLink "UtilityBoard$Law" (25 : Nat) "UtilityBoard$Law" "stack" "[I" ∈ lw_ok := lw_ok_mem (tb_0 _ (List.mem_of_getElem? (i := 123) (by decide +kernel))) rfl
theorem fl_X4_25 : FL RX4 25 4 3 := ⟨RX4, TX4, 8, "UtilityBoard$Law", rfl, by decide, wd_221, Or.inl rfl, in_X4⟩
theorem fq_X4_25 : FPF RX4 25 4 3 (.array .int) := ⟨RX4, TX4, 8, "UtilityBoard$Law", tyX4, rfl, by decide, wd_221, Or.inl rfl, in_X4, tyX4_ok, nmX4, tyX4_ok 3 (by decide), rfl, rfl⟩
theorem wd_222 : Cond.fieldLink "UtilityBoard$Law" (28 : Nat) "UtilityBoard$Law" "top" "I" ∈ lw_ok := lw_ok_mem (tb_0 _ (List.mem_of_getElem? (i := 124) (by decide +kernel))) rfl
theorem fl_X4_28 : FL RX4 28 4 4 := ⟨RX4, TX4, 8, "UtilityBoard$Law", rfl, by decide, wd_222, Or.inl rfl, in_X4⟩
theorem fp_X4_28 : FP RX4 28 4 4 .int := ⟨RX4, TX4, 8, "UtilityBoard$Law", tyX4, rfl, by decide, wd_222, Or.inl rfl, in_X4, tyX4_ok, nmX4, tyX4_ok 4 (by decide), rfl⟩
theorem wd_223 : Cond.fieldLink "UtilityBoard$Law" (32 : Nat) "UtilityBoard$Law" "resume" "I" ∈ lw_ok := lw_ok_mem (tb_0 _ (List.mem_of_getElem? (i := 125) (by decide +kernel))) rfl
theorem fl_X4_32 : FL RX4 32 4 5 := ⟨RX4, TX4, 8, "UtilityBoard$Law", rfl, by decide, wd_223, Or.inl rfl, in_X4⟩
theorem fp_X4_32 : FP RX4 32 4 5 .int := ⟨RX4, TX4, 8, "UtilityBoard$Law", tyX4, rfl, by decide, wd_223, Or.inl rfl, in_X4, tyX4_ok, nmX4, tyX4_ok 5 (by decide), rfl⟩
theorem wd_224 : Cond.fieldLink "UtilityBoard$Law" (35 : Nat) "UtilityBoard$Law" "truth" "Z" ∈ lw_ok := lw_ok_mem (tb_0 _ (List.mem_of_getElem? (i := 126) (by decide +kernel))) rfl
theorem fl_X4_35 : FL RX4 35 4 6 := ⟨RX4, TX4, 8, "UtilityBoard$Law", rfl, by decide, wd_224, Or.inl rfl, in_X4⟩
theorem fp_X4_35 : FP RX4 35 4 6 .boolean := ⟨RX4, TX4, 8, "UtilityBoard$Law", tyX4, rfl, by decide, wd_224, Or.inl rfl, in_X4, tyX4_ok, nmX4, tyX4_ok 6 (by decide), rfl⟩
theorem wd_225 : Cond.fieldLink "UtilityBoard$Law" (39 : Nat) "UtilityBoard$Law" "refused" "Z" ∈ lw_ok := lw_ok_mem (tb_0 _ (List.mem_of_getElem? (i := 127) (by decide +kernel))) rfl
theorem fl_X4_39 : FL RX4 39 4 7 := ⟨RX4, TX4, 8, "UtilityBoard$Law", rfl, by decide, wd_225, Or.inl rfl, in_X4⟩
theorem fp_X4_39 : FP RX4 39 4 7 .boolean := ⟨RX4, TX4, 8, "UtilityBoard$Law", tyX4, rfl, by decide, wd_225, Or.inl rfl, in_X4, tyX4_ok, nmX4, tyX4_ok 7 (by decide), rfl⟩
theorem wd_995 : Cond.fieldLink "UtilityBoard$Law" (52 : Nat) "UtilityBoard$Order" "told" "I" ∈ lw_ok := lw_ok_mem (tb_3 _ (List.mem_of_getElem? (i := 177) (by decide +kernel))) rfl
theorem fl_X4_52 : FL RX4 52 7 2 := ⟨RX7, TX7, 9, "UtilityBoard$Order", rfl, by decide, wd_995, Or.inl rfl, in_X7⟩
theorem wd_991 : Cond.fieldLink "UtilityBoard$Law" (55 : Nat) "UtilityBoard$Order" "from" "I" ∈ lw_ok := lw_ok_mem (tb_3 _ (List.mem_of_getElem? (i := 173) (by decide +kernel))) rfl
theorem fl_X4_55 : FL RX4 55 7 0 := ⟨RX7, TX7, 9, "UtilityBoard$Order", rfl, by decide, wd_991, Or.inl rfl, in_X7⟩
theorem wd_993 : Cond.fieldLink "UtilityBoard$Law" (58 : Nat) "UtilityBoard$Order" "to" "I" ∈ lw_ok := lw_ok_mem (tb_3 _ (List.mem_of_getElem? (i := 175) (by decide +kernel))) rfl
theorem fl_X4_58 : FL RX4 58 7 1 := ⟨RX7, TX7, 9, "UtilityBoard$Order", rfl, by decide, wd_993, Or.inl rfl, in_X7⟩
theorem wd_997 : Cond.fieldLink "UtilityBoard$Law" (61 : Nat) "UtilityBoard$Order" "clauses" "I" ∈ lw_ok := lw_ok_mem (tb_3 _ (List.mem_of_getElem? (i := 179) (by decide +kernel))) rfl
theorem fl_X4_61 : FL RX4 61 7 3 := ⟨RX7, TX7, 9, "UtilityBoard$Order", rfl, by decide, wd_997, Or.inl rfl, in_X7⟩
theorem wd_1002 : Cond.fieldLink "UtilityBoard$Law" (68 : Nat) "UtilityBoard$Order" "numbers" "[I" ∈ lw_ok := lw_ok_mem (tb_3 _ (List.mem_of_getElem? (i := 184) (by decide +kernel))) rfl
theorem fl_X4_68 : FL RX4 68 7 5 := ⟨RX7, TX7, 9, "UtilityBoard$Order", rfl, by decide, wd_1002, Or.inl rfl, in_X7⟩
theorem wd_1004 : Cond.fieldLink "UtilityBoard$Law" (71 : Nat) "UtilityBoard$Order" "struck" "[I" ∈ lw_ok := lw_ok_mem (tb_3 _ (List.mem_of_getElem? (i := 186) (by decide +kernel))) rfl
theorem fl_X4_71 : FL RX4 71 7 6 := ⟨RX7, TX7, 9, "UtilityBoard$Order", rfl, by decide, wd_1004, Or.inl rfl, in_X7⟩
theorem wd_652 : Cond.fieldLink "UtilityBoard$Law" (74 : Nat) "UtilityBoard$Thing" "kind" "I" ∈ lw_ok := lw_ok_mem (tb_2 _ (List.mem_of_getElem? (i := 74) (by decide +kernel))) rfl
theorem fl_X4_74 : FL RX4 74 10 0 := ⟨RX10, TX10, 10, "UtilityBoard$Thing", rfl, by decide, wd_652, Or.inl rfl, in_X10⟩
theorem wd_659 : Cond.fieldLink "UtilityBoard$Law" (82 : Nat) "UtilityBoard$Thing" "pockets" "I" ∈ lw_ok := lw_ok_mem (tb_2 _ (List.mem_of_getElem? (i := 81) (by decide +kernel))) rfl
theorem fl_X4_82 : FL RX4 82 10 3 := ⟨RX10, TX10, 10, "UtilityBoard$Thing", rfl, by decide, wd_659, Or.inl rfl, in_X10⟩
theorem wd_661 : Cond.fieldLink "UtilityBoard$Law" (85 : Nat) "UtilityBoard$Thing" "inches" "I" ∈ lw_ok := lw_ok_mem (tb_2 _ (List.mem_of_getElem? (i := 83) (by decide +kernel))) rfl
theorem fl_X4_85 : FL RX4 85 10 4 := ⟨RX10, TX10, 10, "UtilityBoard$Thing", rfl, by decide, wd_661, Or.inl rfl, in_X10⟩
theorem wd_657 : Cond.fieldLink "UtilityBoard$Law" (88 : Nat) "UtilityBoard$Thing" "cloth" "LUtilityBoard$Cloth;" ∈ lw_ok := lw_ok_mem (tb_2 _ (List.mem_of_getElem? (i := 79) (by decide +kernel))) rfl
theorem fl_X4_88 : FL RX4 88 10 2 := ⟨RX10, TX10, 10, "UtilityBoard$Thing", rfl, by decide, wd_657, Or.inl rfl, in_X10⟩
theorem wd_427 : Cond.fieldLink "UtilityBoard$Law" (92 : Nat) "UtilityBoard$Cloth" "wear" "I" ∈ lw_ok := lw_ok_mem (tb_1 _ (List.mem_of_getElem? (i := 89) (by decide +kernel))) rfl
theorem fl_X4_92 : FL RX4 92 0 1 := ⟨RX0, TX0, 3, "UtilityBoard$Cloth", rfl, by decide, wd_427, Or.inl rfl, in_X0⟩
theorem wd_770 : Cond.fieldLink "UtilityBoard$Law" (97 : Nat) "UtilityBoard$Maker" "town" "I" ∈ lw_ok := lw_ok_mem (tb_2 _ (List.mem_of_getElem? (i := 192) (by decide +kernel))) rfl
theorem fl_X4_97 : FL RX4 97 6 0 := ⟨RX6, TX6, 8, "UtilityBoard$Maker", rfl, by decide, wd_770, Or.inl rfl, in_X6⟩
theorem wd_784 : Cond.fieldLink "UtilityBoard$Law" (102 : Nat) "UtilityBoard$Maker" "named" "Z" ∈ lw_ok := lw_ok_mem (tb_2 _ (List.mem_of_getElem? (i := 206) (by decide +kernel))) rfl
theorem fl_X4_102 : FL RX4 102 6 6 := ⟨RX6, TX6, 8, "UtilityBoard$Maker", rfl, by decide, wd_784, Or.inl rfl, in_X6⟩
theorem fp_X4_102 : FP RX4 102 6 6 .boolean := ⟨RX6, TX6, 8, "UtilityBoard$Maker", tyX6, rfl, by decide, wd_784, Or.inl rfl, in_X6, tyX6_ok, nmX6, tyX6_ok 6 (by decide), rfl⟩
theorem wd_775 : Cond.fieldLink "UtilityBoard$Law" (105 : Nat) "UtilityBoard$Maker" "hands" "I" ∈ lw_ok := lw_ok_mem (tb_2 _ (List.mem_of_getElem? (i := 197) (by decide +kernel))) rfl
theorem fl_X4_105 : FL RX4 105 6 2 := ⟨RX6, TX6, 8, "UtilityBoard$Maker", rfl, by decide, wd_775, Or.inl rfl, in_X6⟩
theorem wd_1000 : Cond.fieldLink "UtilityBoard$Law" (112 : Nat) "UtilityBoard$Order" "letters" "[I" ∈ lw_ok := lw_ok_mem (tb_3 _ (List.mem_of_getElem? (i := 182) (by decide +kernel))) rfl
theorem fl_X4_112 : FL RX4 112 7 4 := ⟨RX7, TX7, 9, "UtilityBoard$Order", rfl, by decide, wd_1000, Or.inl rfl, in_X7⟩
theorem wd_1006 : Cond.fieldLink "UtilityBoard$Law" (113 : Nat) "UtilityBoard$Order" "ends" "[I" ∈ lw_ok := lw_ok_mem (tb_3 _ (List.mem_of_getElem? (i := 188) (by decide +kernel))) rfl
theorem fl_X4_113 : FL RX4 113 7 7 := ⟨RX7, TX7, 9, "UtilityBoard$Order", rfl, by decide, wd_1006, Or.inl rfl, in_X7⟩
theorem wd_1008 : Cond.fieldLink "UtilityBoard$Law" (116 : Nat) "UtilityBoard$Order" "code" "[I" ∈ lw_ok := lw_ok_mem (tb_3 _ (List.mem_of_getElem? (i := 190) (by decide +kernel))) rfl
theorem fl_X4_116 : FL RX4 116 7 8 := ⟨RX7, TX7, 9, "UtilityBoard$Order", rfl, by decide, wd_1008, Or.inl rfl, in_X7⟩
theorem wd_249 : Cond.fieldLink "UtilityBoard$Layout" (11 : Nat) "UtilityBoard$Layout" "widthOfSet" "[I" ∈ lw_ok := lw_ok_mem (tb_0 _ (List.mem_of_getElem? (i := 151) (by decide +kernel))) rfl
theorem fl_X5_11 : FL RX5 11 5 0 := ⟨RX5, TX5, 8, "UtilityBoard$Layout", rfl, by decide, wd_249, Or.inl rfl, in_X5⟩
theorem fq_X5_11 : FPF RX5 11 5 0 (.array .int) := ⟨RX5, TX5, 8, "UtilityBoard$Layout", tyX5, rfl, by decide, wd_249, Or.inl rfl, in_X5, tyX5_ok, nmX5, tyX5_ok 0 (by decide), rfl, rfl⟩
theorem wd_250 : Cond.fieldLink "UtilityBoard$Layout" (15 : Nat) "UtilityBoard$Layout" "tallestOfSet" "[I" ∈ lw_ok := lw_ok_mem (tb_0 _ (List.mem_of_getElem? (i := 152) (by decide +kernel))) rfl
theorem fl_X5_15 : FL RX5 15 5 1 := ⟨RX5, TX5, 8, "UtilityBoard$Layout", rfl, by decide, wd_250, Or.inl rfl, in_X5⟩
theorem fq_X5_15 : FPF RX5 15 5 1 (.array .int) := ⟨RX5, TX5, 8, "UtilityBoard$Layout", tyX5, rfl, by decide, wd_250, Or.inl rfl, in_X5, tyX5_ok, nmX5, tyX5_ok 1 (by decide), rfl, rfl⟩
theorem wd_251 : Cond.fieldLink "UtilityBoard$Layout" (18 : Nat) "UtilityBoard$Layout" "shortestOfSet" "[I" ∈ lw_ok := lw_ok_mem (tb_0 _ (List.mem_of_getElem? (i := 153) (by decide +kernel))) rfl
theorem fl_X5_18 : FL RX5 18 5 2 := ⟨RX5, TX5, 8, "UtilityBoard$Layout", rfl, by decide, wd_251, Or.inl rfl, in_X5⟩
theorem fq_X5_18 : FPF RX5 18 5 2 (.array .int) := ⟨RX5, TX5, 8, "UtilityBoard$Layout", tyX5, rfl, by decide, wd_251, Or.inl rfl, in_X5, tyX5_ok, nmX5, tyX5_ok 2 (by decide), rfl, rfl⟩
theorem wd_252 : Cond.fieldLink "UtilityBoard$Layout" (21 : Nat) "UtilityBoard$Layout" "row" "[I" ∈ lw_ok := lw_ok_mem (tb_0 _ (List.mem_of_getElem? (i := 154) (by decide +kernel))) rfl
theorem fl_X5_21 : FL RX5 21 5 3 := ⟨RX5, TX5, 8, "UtilityBoard$Layout", rfl, by decide, wd_252, Or.inl rfl, in_X5⟩
theorem fq_X5_21 : FPF RX5 21 5 3 (.array .int) := ⟨RX5, TX5, 8, "UtilityBoard$Layout", tyX5, rfl, by decide, wd_252, Or.inl rfl, in_X5, tyX5_ok, nmX5, tyX5_ok 3 (by decide), rfl, rfl⟩
theorem wd_254 : Cond.fieldLink "UtilityBoard$Layout" (24 : Nat) "UtilityBoard$Layout" "shortest" "I" ∈ lw_ok := lw_ok_mem (tb_0 _ (List.mem_of_getElem? (i := 156) (by decide +kernel))) rfl
theorem fl_X5_24 : FL RX5 24 5 4 := ⟨RX5, TX5, 8, "UtilityBoard$Layout", rfl, by decide, wd_254, Or.inl rfl, in_X5⟩
theorem fp_X5_24 : FP RX5 24 5 4 .int := ⟨RX5, TX5, 8, "UtilityBoard$Layout", tyX5, rfl, by decide, wd_254, Or.inl rfl, in_X5, tyX5_ok, nmX5, tyX5_ok 4 (by decide), rfl⟩
theorem wd_256 : Cond.fieldLink "UtilityBoard$Layout" (28 : Nat) "UtilityBoard$Layout" "coat" "LUtilityBoard$Thing;" ∈ lw_ok := lw_ok_mem (tb_0 _ (List.mem_of_getElem? (i := 158) (by decide +kernel))) rfl
theorem fl_X5_28 : FL RX5 28 5 5 := ⟨RX5, TX5, 8, "UtilityBoard$Layout", rfl, by decide, wd_256, Or.inl rfl, in_X5⟩
theorem fp_X5_28 : FP RX5 28 5 5 (.object "UtilityBoard$Thing") := ⟨RX5, TX5, 8, "UtilityBoard$Layout", tyX5, rfl, by decide, wd_256, Or.inl rfl, in_X5, tyX5_ok, nmX5, tyX5_ok 5 (by decide), rfl⟩
theorem wd_257 : Cond.fieldLink "UtilityBoard$Layout" (32 : Nat) "UtilityBoard$Layout" "width" "I" ∈ lw_ok := lw_ok_mem (tb_0 _ (List.mem_of_getElem? (i := 159) (by decide +kernel))) rfl
theorem fl_X5_32 : FL RX5 32 5 6 := ⟨RX5, TX5, 8, "UtilityBoard$Layout", rfl, by decide, wd_257, Or.inl rfl, in_X5⟩
theorem fp_X5_32 : FP RX5 32 5 6 .int := ⟨RX5, TX5, 8, "UtilityBoard$Layout", tyX5, rfl, by decide, wd_257, Or.inl rfl, in_X5, tyX5_ok, nmX5, tyX5_ok 6 (by decide), rfl⟩
theorem wd_258 : Cond.fieldLink "UtilityBoard$Layout" (35 : Nat) "UtilityBoard$Layout" "pieces" "I" ∈ lw_ok := lw_ok_mem (tb_0 _ (List.mem_of_getElem? (i := 160) (by decide +kernel))) rfl
theorem fl_X5_35 : FL RX5 35 5 7 := ⟨RX5, TX5, 8, "UtilityBoard$Layout", rfl, by decide, wd_258, Or.inl rfl, in_X5⟩
theorem fp_X5_35 : FP RX5 35 5 7 .int := ⟨RX5, TX5, 8, "UtilityBoard$Layout", tyX5, rfl, by decide, wd_258, Or.inl rfl, in_X5, tyX5_ok, nmX5, tyX5_ok 7 (by decide), rfl⟩
theorem wd_670 : Cond.fieldLink "UtilityBoard$Layout" (38 : Nat) "UtilityBoard$Thing" "pieces" "I" ∈ lw_ok := lw_ok_mem (tb_2 _ (List.mem_of_getElem? (i := 92) (by decide +kernel))) rfl
theorem fl_X5_38 : FL RX5 38 10 8 := ⟨RX10, TX10, 10, "UtilityBoard$Thing", rfl, by decide, wd_670, Or.inl rfl, in_X10⟩
theorem fp_X5_38 : FP RX5 38 10 8 .int := ⟨RX10, TX10, 10, "UtilityBoard$Thing", tyX10, rfl, by decide, wd_670, Or.inl rfl, in_X10, tyX10_ok, nmX10, tyX10_ok 8 (by decide), rfl⟩
theorem wd_668 : Cond.fieldLink "UtilityBoard$Layout" (45 : Nat) "UtilityBoard$Thing" "widths" "[I" ∈ lw_ok := lw_ok_mem (tb_2 _ (List.mem_of_getElem? (i := 90) (by decide +kernel))) rfl
theorem fl_X5_45 : FL RX5 45 10 7 := ⟨RX10, TX10, 10, "UtilityBoard$Thing", rfl, by decide, wd_668, Or.inl rfl, in_X10⟩
theorem wd_666 : Cond.fieldLink "UtilityBoard$Layout" (48 : Nat) "UtilityBoard$Thing" "lengths" "[I" ∈ lw_ok := lw_ok_mem (tb_2 _ (List.mem_of_getElem? (i := 88) (by decide +kernel))) rfl
theorem fl_X5_48 : FL RX5 48 10 6 := ⟨RX10, TX10, 10, "UtilityBoard$Thing", rfl, by decide, wd_666, Or.inl rfl, in_X10⟩
theorem wd_781 : Cond.fieldLink "UtilityBoard$Maker" (9 : Nat) "UtilityBoard$Maker" "yards" "[I" ∈ lw_ok := lw_ok_mem (tb_2 _ (List.mem_of_getElem? (i := 203) (by decide +kernel))) rfl
theorem fl_X6_9 : FL RX6 9 6 5 := ⟨RX6, TX6, 8, "UtilityBoard$Maker", rfl, by decide, wd_781, Or.inl rfl, in_X6⟩
theorem fq_X6_9 : FPF RX6 9 6 5 (.array .int) := ⟨RX6, TX6, 8, "UtilityBoard$Maker", tyX6, rfl, by decide, wd_781, Or.inl rfl, in_X6, tyX6_ok, nmX6, tyX6_ok 5 (by decide), rfl, rfl⟩
theorem wd_783 : Cond.fieldLink "UtilityBoard$Maker" (15 : Nat) "UtilityBoard$Maker" "named" "Z" ∈ lw_ok := lw_ok_mem (tb_2 _ (List.mem_of_getElem? (i := 205) (by decide +kernel))) rfl
theorem fl_X6_15 : FL RX6 15 6 6 := ⟨RX6, TX6, 8, "UtilityBoard$Maker", rfl, by decide, wd_783, Or.inl rfl, in_X6⟩
theorem fp_X6_15 : FP RX6 15 6 6 .boolean := ⟨RX6, TX6, 8, "UtilityBoard$Maker", tyX6, rfl, by decide, wd_783, Or.inl rfl, in_X6, tyX6_ok, nmX6, tyX6_ok 6 (by decide), rfl⟩
theorem wd_786 : Cond.fieldLink "UtilityBoard$Maker" (19 : Nat) "UtilityBoard$Maker" "made" "I" ∈ lw_ok := lw_ok_mem (tb_2 _ (List.mem_of_getElem? (i := 208) (by decide +kernel))) rfl
theorem fl_X6_19 : FL RX6 19 6 7 := ⟨RX6, TX6, 8, "UtilityBoard$Maker", rfl, by decide, wd_786, Or.inl rfl, in_X6⟩
theorem fp_X6_19 : FP RX6 19 6 7 .int := ⟨RX6, TX6, 8, "UtilityBoard$Maker", tyX6, rfl, by decide, wd_786, Or.inl rfl, in_X6, tyX6_ok, nmX6, tyX6_ok 7 (by decide), rfl⟩
theorem wd_769 : Cond.fieldLink "UtilityBoard$Maker" (23 : Nat) "UtilityBoard$Maker" "town" "I" ∈ lw_ok := lw_ok_mem (tb_2 _ (List.mem_of_getElem? (i := 191) (by decide +kernel))) rfl
theorem fl_X6_23 : FL RX6 23 6 0 := ⟨RX6, TX6, 8, "UtilityBoard$Maker", rfl, by decide, wd_769, Or.inl rfl, in_X6⟩
theorem fq_X6_23 : FPF RX6 23 6 0 .int := ⟨RX6, TX6, 8, "UtilityBoard$Maker", tyX6, rfl, by decide, wd_769, Or.inl rfl, in_X6, tyX6_ok, nmX6, tyX6_ok 0 (by decide), rfl, rfl⟩
theorem wd_772 : Cond.fieldLink "UtilityBoard$Maker" (26 : Nat) "UtilityBoard$Maker" "plant" "I" ∈ lw_ok := lw_ok_mem (tb_2 _ (List.mem_of_getElem? (i := 194) (by decide +kernel))) rfl
theorem fl_X6_26 : FL RX6 26 6 1 := ⟨RX6, TX6, 8, "UtilityBoard$Maker", rfl, by decide, wd_772, Or.inl rfl, in_X6⟩
theorem fq_X6_26 : FPF RX6 26 6 1 .int := ⟨RX6, TX6, 8, "UtilityBoard$Maker", tyX6, rfl, by decide, wd_772, Or.inl rfl, in_X6, tyX6_ok, nmX6, tyX6_ok 1 (by decide), rfl, rfl⟩
theorem wd_774 : Cond.fieldLink "UtilityBoard$Maker" (29 : Nat) "UtilityBoard$Maker" "hands" "I" ∈ lw_ok := lw_ok_mem (tb_2 _ (List.mem_of_getElem? (i := 196) (by decide +kernel))) rfl
theorem fl_X6_29 : FL RX6 29 6 2 := ⟨RX6, TX6, 8, "UtilityBoard$Maker", rfl, by decide, wd_774, Or.inl rfl, in_X6⟩
theorem fq_X6_29 : FPF RX6 29 6 2 .int := ⟨RX6, TX6, 8, "UtilityBoard$Maker", tyX6, rfl, by decide, wd_774, Or.inl rfl, in_X6, tyX6_ok, nmX6, tyX6_ok 2 (by decide), rfl, rfl⟩
theorem wd_777 : Cond.fieldLink "UtilityBoard$Maker" (32 : Nat) "UtilityBoard$Maker" "rate" "I" ∈ lw_ok := lw_ok_mem (tb_2 _ (List.mem_of_getElem? (i := 199) (by decide +kernel))) rfl
theorem fl_X6_32 : FL RX6 32 6 3 := ⟨RX6, TX6, 8, "UtilityBoard$Maker", rfl, by decide, wd_777, Or.inl rfl, in_X6⟩
theorem fq_X6_32 : FPF RX6 32 6 3 .int := ⟨RX6, TX6, 8, "UtilityBoard$Maker", tyX6, rfl, by decide, wd_777, Or.inl rfl, in_X6, tyX6_ok, nmX6, tyX6_ok 3 (by decide), rfl, rfl⟩
theorem wd_779 : Cond.fieldLink "UtilityBoard$Maker" (35 : Nat) "UtilityBoard$Maker" "hire" "I" ∈ lw_ok := lw_ok_mem (tb_2 _ (List.mem_of_getElem? (i := 201) (by decide +kernel))) rfl
theorem fl_X6_35 : FL RX6 35 6 4 := ⟨RX6, TX6, 8, "UtilityBoard$Maker", rfl, by decide, wd_779, Or.inl rfl, in_X6⟩
theorem fq_X6_35 : FPF RX6 35 6 4 .int := ⟨RX6, TX6, 8, "UtilityBoard$Maker", tyX6, rfl, by decide, wd_779, Or.inl rfl, in_X6, tyX6_ok, nmX6, tyX6_ok 4 (by decide), rfl, rfl⟩
theorem wd_990 : Cond.fieldLink "UtilityBoard$Order" (7 : Nat) "UtilityBoard$Order" "from" "I" ∈ lw_ok := lw_ok_mem (tb_3 _ (List.mem_of_getElem? (i := 172) (by decide +kernel))) rfl
theorem fl_X7_7 : FL RX7 7 7 0 := ⟨RX7, TX7, 9, "UtilityBoard$Order", rfl, by decide, wd_990, Or.inl rfl, in_X7⟩
theorem fq_X7_7 : FPF RX7 7 7 0 .int := ⟨RX7, TX7, 9, "UtilityBoard$Order", tyX7, rfl, by decide, wd_990, Or.inl rfl, in_X7, tyX7_ok, nmX7, tyX7_ok 0 (by decide), rfl, rfl⟩
theorem wd_992 : Cond.fieldLink "UtilityBoard$Order" (13 : Nat) "UtilityBoard$Order" "to" "I" ∈ lw_ok := lw_ok_mem (tb_3 _ (List.mem_of_getElem? (i := 174) (by decide +kernel))) rfl
theorem fl_X7_13 : FL RX7 13 7 1 := ⟨RX7, TX7, 9, "UtilityBoard$Order", rfl, by decide, wd_992, Or.inl rfl, in_X7⟩
theorem fq_X7_13 : FPF RX7 13 7 1 .int := ⟨RX7, TX7, 9, "UtilityBoard$Order", tyX7, rfl, by decide, wd_992, Or.inl rfl, in_X7, tyX7_ok, nmX7, tyX7_ok 1 (by decide), rfl, rfl⟩
theorem wd_994 : Cond.fieldLink "UtilityBoard$Order" (16 : Nat) "UtilityBoard$Order" "told" "I" ∈ lw_ok := lw_ok_mem (tb_3 _ (List.mem_of_getElem? (i := 176) (by decide +kernel))) rfl
theorem fl_X7_16 : FL RX7 16 7 2 := ⟨RX7, TX7, 9, "UtilityBoard$Order", rfl, by decide, wd_994, Or.inl rfl, in_X7⟩
theorem fq_X7_16 : FPF RX7 16 7 2 .int := ⟨RX7, TX7, 9, "UtilityBoard$Order", tyX7, rfl, by decide, wd_994, Or.inl rfl, in_X7, tyX7_ok, nmX7, tyX7_ok 2 (by decide), rfl, rfl⟩
theorem wd_176 : Cond.fieldLink "UtilityBoard$Order" (19 : Nat) "UtilityBoard$Reader" "clauses" "I" ∈ lw_ok := lw_ok_mem (tb_0 _ (List.mem_of_getElem? (i := 78) (by decide +kernel))) rfl
theorem fl_X7_19 : FL RX7 19 9 5 := ⟨RX9, TX9, 11, "UtilityBoard$Reader", rfl, by decide, wd_176, Or.inl rfl, in_X9⟩
theorem fp_X7_19 : FP RX7 19 9 5 .int := ⟨RX9, TX9, 11, "UtilityBoard$Reader", tyX9, rfl, by decide, wd_176, Or.inl rfl, in_X9, tyX9_ok, nmX9, tyX9_ok 5 (by decide), rfl⟩
theorem wd_996 : Cond.fieldLink "UtilityBoard$Order" (24 : Nat) "UtilityBoard$Order" "clauses" "I" ∈ lw_ok := lw_ok_mem (tb_3 _ (List.mem_of_getElem? (i := 178) (by decide +kernel))) rfl
theorem fl_X7_24 : FL RX7 24 7 3 := ⟨RX7, TX7, 9, "UtilityBoard$Order", rfl, by decide, wd_996, Or.inl rfl, in_X7⟩
theorem fq_X7_24 : FPF RX7 24 7 3 .int := ⟨RX7, TX7, 9, "UtilityBoard$Order", tyX7, rfl, by decide, wd_996, Or.inl rfl, in_X7, tyX7_ok, nmX7, tyX7_ok 3 (by decide), rfl, rfl⟩
theorem wd_167 : Cond.fieldLink "UtilityBoard$Order" (25 : Nat) "UtilityBoard$Reader" "letters" "[I" ∈ lw_ok := lw_ok_mem (tb_0 _ (List.mem_of_getElem? (i := 69) (by decide +kernel))) rfl
theorem fl_X7_25 : FL RX7 25 9 0 := ⟨RX9, TX9, 11, "UtilityBoard$Reader", rfl, by decide, wd_167, Or.inl rfl, in_X9⟩
theorem wd_999 : Cond.fieldLink "UtilityBoard$Order" (35 : Nat) "UtilityBoard$Order" "letters" "[I" ∈ lw_ok := lw_ok_mem (tb_3 _ (List.mem_of_getElem? (i := 181) (by decide +kernel))) rfl
theorem fl_X7_35 : FL RX7 35 7 4 := ⟨RX7, TX7, 9, "UtilityBoard$Order", rfl, by decide, wd_999, Or.inl rfl, in_X7⟩
theorem fq_X7_35 : FPF RX7 35 7 4 (.array .int) := ⟨RX7, TX7, 9, "UtilityBoard$Order", tyX7, rfl, by decide, wd_999, Or.inl rfl, in_X7, tyX7_ok, nmX7, tyX7_ok 4 (by decide), rfl, rfl⟩
theorem wd_169 : Cond.fieldLink "UtilityBoard$Order" (36 : Nat) "UtilityBoard$Reader" "numbers" "[I" ∈ lw_ok := lw_ok_mem (tb_0 _ (List.mem_of_getElem? (i := 71) (by decide +kernel))) rfl
theorem fl_X7_36 : FL RX7 36 9 1 := ⟨RX9, TX9, 11, "UtilityBoard$Reader", rfl, by decide, wd_169, Or.inl rfl, in_X9⟩
theorem wd_1001 : Cond.fieldLink "UtilityBoard$Order" (39 : Nat) "UtilityBoard$Order" "numbers" "[I" ∈ lw_ok := lw_ok_mem (tb_3 _ (List.mem_of_getElem? (i := 183) (by decide +kernel))) rfl
theorem fl_X7_39 : FL RX7 39 7 5 := ⟨RX7, TX7, 9, "UtilityBoard$Order", rfl, by decide, wd_1001, Or.inl rfl, in_X7⟩
theorem fq_X7_39 : FPF RX7 39 7 5 (.array .int) := ⟨RX7, TX7, 9, "UtilityBoard$Order", tyX7, rfl, by decide, wd_1001, Or.inl rfl, in_X7, tyX7_ok, nmX7, tyX7_ok 5 (by decide), rfl, rfl⟩
theorem wd_171 : Cond.fieldLink "UtilityBoard$Order" (40 : Nat) "UtilityBoard$Reader" "struck" "[I" ∈ lw_ok := lw_ok_mem (tb_0 _ (List.mem_of_getElem? (i := 73) (by decide +kernel))) rfl
theorem fl_X7_40 : FL RX7 40 9 2 := ⟨RX9, TX9, 11, "UtilityBoard$Reader", rfl, by decide, wd_171, Or.inl rfl, in_X9⟩
theorem wd_1003 : Cond.fieldLink "UtilityBoard$Order" (43 : Nat) "UtilityBoard$Order" "struck" "[I" ∈ lw_ok := lw_ok_mem (tb_3 _ (List.mem_of_getElem? (i := 185) (by decide +kernel))) rfl
theorem fl_X7_43 : FL RX7 43 7 6 := ⟨RX7, TX7, 9, "UtilityBoard$Order", rfl, by decide, wd_1003, Or.inl rfl, in_X7⟩
theorem fq_X7_43 : FPF RX7 43 7 6 (.array .int) := ⟨RX7, TX7, 9, "UtilityBoard$Order", tyX7, rfl, by decide, wd_1003, Or.inl rfl, in_X7, tyX7_ok, nmX7, tyX7_ok 6 (by decide), rfl, rfl⟩
theorem wd_173 : Cond.fieldLink "UtilityBoard$Order" (44 : Nat) "UtilityBoard$Reader" "ends" "[I" ∈ lw_ok := lw_ok_mem (tb_0 _ (List.mem_of_getElem? (i := 75) (by decide +kernel))) rfl
theorem fl_X7_44 : FL RX7 44 9 3 := ⟨RX9, TX9, 11, "UtilityBoard$Reader", rfl, by decide, wd_173, Or.inl rfl, in_X9⟩
theorem wd_1005 : Cond.fieldLink "UtilityBoard$Order" (47 : Nat) "UtilityBoard$Order" "ends" "[I" ∈ lw_ok := lw_ok_mem (tb_3 _ (List.mem_of_getElem? (i := 187) (by decide +kernel))) rfl
theorem fl_X7_47 : FL RX7 47 7 7 := ⟨RX7, TX7, 9, "UtilityBoard$Order", rfl, by decide, wd_1005, Or.inl rfl, in_X7⟩
theorem fq_X7_47 : FPF RX7 47 7 7 (.array .int) := ⟨RX7, TX7, 9, "UtilityBoard$Order", tyX7, rfl, by decide, wd_1005, Or.inl rfl, in_X7, tyX7_ok, nmX7, tyX7_ok 7 (by decide), rfl, rfl⟩
theorem wd_175 : Cond.fieldLink "UtilityBoard$Order" (48 : Nat) "UtilityBoard$Reader" "code" "[I" ∈ lw_ok := lw_ok_mem (tb_0 _ (List.mem_of_getElem? (i := 77) (by decide +kernel))) rfl
theorem fl_X7_48 : FL RX7 48 9 4 := ⟨RX9, TX9, 11, "UtilityBoard$Reader", rfl, by decide, wd_175, Or.inl rfl, in_X9⟩
theorem wd_179 : Cond.fieldLink "UtilityBoard$Order" (51 : Nat) "UtilityBoard$Reader" "size" "I" ∈ lw_ok := lw_ok_mem (tb_0 _ (List.mem_of_getElem? (i := 81) (by decide +kernel))) rfl
theorem fl_X7_51 : FL RX7 51 9 6 := ⟨RX9, TX9, 11, "UtilityBoard$Reader", rfl, by decide, wd_179, Or.inl rfl, in_X9⟩
theorem fp_X7_51 : FP RX7 51 9 6 .int := ⟨RX9, TX9, 11, "UtilityBoard$Reader", tyX9, rfl, by decide, wd_179, Or.inl rfl, in_X9, tyX9_ok, nmX9, tyX9_ok 6 (by decide), rfl⟩
theorem wd_1007 : Cond.fieldLink "UtilityBoard$Order" (54 : Nat) "UtilityBoard$Order" "code" "[I" ∈ lw_ok := lw_ok_mem (tb_3 _ (List.mem_of_getElem? (i := 189) (by decide +kernel))) rfl
theorem fl_X7_54 : FL RX7 54 7 8 := ⟨RX7, TX7, 9, "UtilityBoard$Order", rfl, by decide, wd_1007, Or.inl rfl, in_X7⟩
theorem fq_X7_54 : FPF RX7 54 7 8 (.array .int) := ⟨RX7, TX7, 9, "UtilityBoard$Order", tyX7, rfl, by decide, wd_1007, Or.inl rfl, in_X7, tyX7_ok, nmX7, tyX7_ok 8 (by decide), rfl, rfl⟩
theorem wd_1105 : Cond.fieldLink "UtilityBoard$Person" (7 : Nat) "UtilityBoard$Person" "points" "I" ∈ lw_ok := lw_ok_mem (tb_4 _ (List.mem_of_getElem? (i := 47) (by decide +kernel))) rfl
theorem fl_X8_7 : FL RX8 7 8 0 := ⟨RX8, TX8, 2, "UtilityBoard$Person", rfl, by decide, wd_1105, Or.inl rfl, in_X8⟩
theorem fp_X8_7 : FP RX8 7 8 0 .int := ⟨RX8, TX8, 2, "UtilityBoard$Person", tyX8, rfl, by decide, wd_1105, Or.inl rfl, in_X8, tyX8_ok, nmX8, tyX8_ok 0 (by decide), rfl⟩
theorem wd_1107 : Cond.fieldLink "UtilityBoard$Person" (13 : Nat) "UtilityBoard$Person" "purse" "I" ∈ lw_ok := lw_ok_mem (tb_4 _ (List.mem_of_getElem? (i := 49) (by decide +kernel))) rfl
theorem fl_X8_13 : FL RX8 13 8 1 := ⟨RX8, TX8, 2, "UtilityBoard$Person", rfl, by decide, wd_1107, Or.inl rfl, in_X8⟩
theorem fp_X8_13 : FP RX8 13 8 1 .int := ⟨RX8, TX8, 2, "UtilityBoard$Person", tyX8, rfl, by decide, wd_1107, Or.inl rfl, in_X8, tyX8_ok, nmX8, tyX8_ok 1 (by decide), rfl⟩
theorem wd_166 : Cond.fieldLink "UtilityBoard$Reader" (11 : Nat) "UtilityBoard$Reader" "letters" "[I" ∈ lw_ok := lw_ok_mem (tb_0 _ (List.mem_of_getElem? (i := 68) (by decide +kernel))) rfl
theorem fl_X9_11 : FL RX9 11 9 0 := ⟨RX9, TX9, 11, "UtilityBoard$Reader", rfl, by decide, wd_166, Or.inl rfl, in_X9⟩
theorem fq_X9_11 : FPF RX9 11 9 0 (.array .int) := ⟨RX9, TX9, 11, "UtilityBoard$Reader", tyX9, rfl, by decide, wd_166, Or.inl rfl, in_X9, tyX9_ok, nmX9, tyX9_ok 0 (by decide), rfl, rfl⟩
theorem wd_168 : Cond.fieldLink "UtilityBoard$Reader" (15 : Nat) "UtilityBoard$Reader" "numbers" "[I" ∈ lw_ok := lw_ok_mem (tb_0 _ (List.mem_of_getElem? (i := 70) (by decide +kernel))) rfl
theorem fl_X9_15 : FL RX9 15 9 1 := ⟨RX9, TX9, 11, "UtilityBoard$Reader", rfl, by decide, wd_168, Or.inl rfl, in_X9⟩
theorem fq_X9_15 : FPF RX9 15 9 1 (.array .int) := ⟨RX9, TX9, 11, "UtilityBoard$Reader", tyX9, rfl, by decide, wd_168, Or.inl rfl, in_X9, tyX9_ok, nmX9, tyX9_ok 1 (by decide), rfl, rfl⟩
theorem wd_170 : Cond.fieldLink "UtilityBoard$Reader" (18 : Nat) "UtilityBoard$Reader" "struck" "[I" ∈ lw_ok := lw_ok_mem (tb_0 _ (List.mem_of_getElem? (i := 72) (by decide +kernel))) rfl
theorem fl_X9_18 : FL RX9 18 9 2 := ⟨RX9, TX9, 11, "UtilityBoard$Reader", rfl, by decide, wd_170, Or.inl rfl, in_X9⟩
theorem fq_X9_18 : FPF RX9 18 9 2 (.array .int) := ⟨RX9, TX9, 11, "UtilityBoard$Reader", tyX9, rfl, by decide, wd_170, Or.inl rfl, in_X9, tyX9_ok, nmX9, tyX9_ok 2 (by decide), rfl, rfl⟩
theorem wd_172 : Cond.fieldLink "UtilityBoard$Reader" (21 : Nat) "UtilityBoard$Reader" "ends" "[I" ∈ lw_ok := lw_ok_mem (tb_0 _ (List.mem_of_getElem? (i := 74) (by decide +kernel))) rfl
theorem fl_X9_21 : FL RX9 21 9 3 := ⟨RX9, TX9, 11, "UtilityBoard$Reader", rfl, by decide, wd_172, Or.inl rfl, in_X9⟩
theorem fq_X9_21 : FPF RX9 21 9 3 (.array .int) := ⟨RX9, TX9, 11, "UtilityBoard$Reader", tyX9, rfl, by decide, wd_172, Or.inl rfl, in_X9, tyX9_ok, nmX9, tyX9_ok 3 (by decide), rfl, rfl⟩
theorem wd_174 : Cond.fieldLink "UtilityBoard$Reader" (24 : Nat) "UtilityBoard$Reader" "code" "[I" ∈ lw_ok := lw_ok_mem (tb_0 _ (List.mem_of_getElem? (i := 76) (by decide +kernel))) rfl
theorem fl_X9_24 : FL RX9 24 9 4 := ⟨RX9, TX9, 11, "UtilityBoard$Reader", rfl, by decide, wd_174, Or.inl rfl, in_X9⟩
theorem fq_X9_24 : FPF RX9 24 9 4 (.array .int) := ⟨RX9, TX9, 11, "UtilityBoard$Reader", tyX9, rfl, by decide, wd_174, Or.inl rfl, in_X9, tyX9_ok, nmX9, tyX9_ok 4 (by decide), rfl, rfl⟩
theorem wd_177 : Cond.fieldLink "UtilityBoard$Reader" (27 : Nat) "UtilityBoard$Reader" "clauses" "I" ∈ lw_ok := lw_ok_mem (tb_0 _ (List.mem_of_getElem? (i := 79) (by decide +kernel))) rfl
theorem fl_X9_27 : FL RX9 27 9 5 := ⟨RX9, TX9, 11, "UtilityBoard$Reader", rfl, by decide, wd_177, Or.inl rfl, in_X9⟩
theorem fp_X9_27 : FP RX9 27 9 5 .int := ⟨RX9, TX9, 11, "UtilityBoard$Reader", tyX9, rfl, by decide, wd_177, Or.inl rfl, in_X9, tyX9_ok, nmX9, tyX9_ok 5 (by decide), rfl⟩
theorem wd_178 : Cond.fieldLink "UtilityBoard$Reader" (31 : Nat) "UtilityBoard$Reader" "size" "I" ∈ lw_ok := lw_ok_mem (tb_0 _ (List.mem_of_getElem? (i := 80) (by decide +kernel))) rfl
theorem fl_X9_31 : FL RX9 31 9 6 := ⟨RX9, TX9, 11, "UtilityBoard$Reader", rfl, by decide, wd_178, Or.inl rfl, in_X9⟩
theorem fp_X9_31 : FP RX9 31 9 6 .int := ⟨RX9, TX9, 11, "UtilityBoard$Reader", tyX9, rfl, by decide, wd_178, Or.inl rfl, in_X9, tyX9_ok, nmX9, tyX9_ok 6 (by decide), rfl⟩
theorem wd_180 : Cond.fieldLink "UtilityBoard$Reader" (34 : Nat) "UtilityBoard$Reader" "text" "[B" ∈ lw_ok := lw_ok_mem (tb_0 _ (List.mem_of_getElem? (i := 82) (by decide +kernel))) rfl
theorem fl_X9_34 : FL RX9 34 9 7 := ⟨RX9, TX9, 11, "UtilityBoard$Reader", rfl, by decide, wd_180, Or.inl rfl, in_X9⟩
theorem fp_X9_34 : FP RX9 34 9 7 (.array .byte) := ⟨RX9, TX9, 11, "UtilityBoard$Reader", tyX9, rfl, by decide, wd_180, Or.inl rfl, in_X9, tyX9_ok, nmX9, tyX9_ok 7 (by decide), rfl⟩
theorem wd_181 : Cond.fieldLink "UtilityBoard$Reader" (38 : Nat) "UtilityBoard$Reader" "end" "I" ∈ lw_ok := lw_ok_mem (tb_0 _ (List.mem_of_getElem? (i := 83) (by decide +kernel))) rfl
theorem fl_X9_38 : FL RX9 38 9 8 := ⟨RX9, TX9, 11, "UtilityBoard$Reader", rfl, by decide, wd_181, Or.inl rfl, in_X9⟩
theorem fp_X9_38 : FP RX9 38 9 8 .int := ⟨RX9, TX9, 11, "UtilityBoard$Reader", tyX9, rfl, by decide, wd_181, Or.inl rfl, in_X9, tyX9_ok, nmX9, tyX9_ok 8 (by decide), rfl⟩
theorem wd_182 : Cond.fieldLink "UtilityBoard$Reader" (41 : Nat) "UtilityBoard$Reader" "at" "I" ∈ lw_ok := lw_ok_mem (tb_0 _ (List.mem_of_getElem? (i := 84) (by decide +kernel))) rfl
theorem fl_X9_41 : FL RX9 41 9 9 := ⟨RX9, TX9, 11, "UtilityBoard$Reader", rfl, by decide, wd_182, Or.inl rfl, in_X9⟩
theorem fp_X9_41 : FP RX9 41 9 9 .int := ⟨RX9, TX9, 11, "UtilityBoard$Reader", tyX9, rfl, by decide, wd_182, Or.inl rfl, in_X9, tyX9_ok, nmX9, tyX9_ok 9 (by decide), rfl⟩
theorem wd_183 : Cond.fieldLink "UtilityBoard$Reader" (44 : Nat) "UtilityBoard$Reader" "fault" "I" ∈ lw_ok := lw_ok_mem (tb_0 _ (List.mem_of_getElem? (i := 85) (by decide +kernel))) rfl
theorem fl_X9_44 : FL RX9 44 9 10 := ⟨RX9, TX9, 11, "UtilityBoard$Reader", rfl, by decide, wd_183, Or.inl rfl, in_X9⟩
theorem fp_X9_44 : FP RX9 44 9 10 .int := ⟨RX9, TX9, 11, "UtilityBoard$Reader", tyX9, rfl, by decide, wd_183, Or.inl rfl, in_X9, tyX9_ok, nmX9, tyX9_ok 10 (by decide), rfl⟩
theorem wd_663 : Cond.fieldLink "UtilityBoard$Thing" (9 : Nat) "UtilityBoard$Thing" "shops" "[I" ∈ lw_ok := lw_ok_mem (tb_2 _ (List.mem_of_getElem? (i := 85) (by decide +kernel))) rfl
theorem fl_X10_9 : FL RX10 9 10 5 := ⟨RX10, TX10, 10, "UtilityBoard$Thing", rfl, by decide, wd_663, Or.inl rfl, in_X10⟩
theorem fq_X10_9 : FPF RX10 9 10 5 (.array .int) := ⟨RX10, TX10, 10, "UtilityBoard$Thing", tyX10, rfl, by decide, wd_663, Or.inl rfl, in_X10, tyX10_ok, nmX10, tyX10_ok 5 (by decide), rfl, rfl⟩
theorem wd_669 : Cond.fieldLink "UtilityBoard$Thing" (15 : Nat) "UtilityBoard$Thing" "pieces" "I" ∈ lw_ok := lw_ok_mem (tb_2 _ (List.mem_of_getElem? (i := 91) (by decide +kernel))) rfl
theorem fl_X10_15 : FL RX10 15 10 8 := ⟨RX10, TX10, 10, "UtilityBoard$Thing", rfl, by decide, wd_669, Or.inl rfl, in_X10⟩
theorem fp_X10_15 : FP RX10 15 10 8 .int := ⟨RX10, TX10, 10, "UtilityBoard$Thing", tyX10, rfl, by decide, wd_669, Or.inl rfl, in_X10, tyX10_ok, nmX10, tyX10_ok 8 (by decide), rfl⟩
theorem wd_672 : Cond.fieldLink "UtilityBoard$Thing" (19 : Nat) "UtilityBoard$Thing" "price" "I" ∈ lw_ok := lw_ok_mem (tb_2 _ (List.mem_of_getElem? (i := 94) (by decide +kernel))) rfl
theorem fl_X10_19 : FL RX10 19 10 9 := ⟨RX10, TX10, 10, "UtilityBoard$Thing", rfl, by decide, wd_672, Or.inl rfl, in_X10⟩
theorem fp_X10_19 : FP RX10 19 10 9 .int := ⟨RX10, TX10, 10, "UtilityBoard$Thing", tyX10, rfl, by decide, wd_672, Or.inl rfl, in_X10, tyX10_ok, nmX10, tyX10_ok 9 (by decide), rfl⟩
theorem wd_651 : Cond.fieldLink "UtilityBoard$Thing" (22 : Nat) "UtilityBoard$Thing" "kind" "I" ∈ lw_ok := lw_ok_mem (tb_2 _ (List.mem_of_getElem? (i := 73) (by decide +kernel))) rfl
theorem fl_X10_22 : FL RX10 22 10 0 := ⟨RX10, TX10, 10, "UtilityBoard$Thing", rfl, by decide, wd_651, Or.inl rfl, in_X10⟩
theorem fq_X10_22 : FPF RX10 22 10 0 .int := ⟨RX10, TX10, 10, "UtilityBoard$Thing", tyX10, rfl, by decide, wd_651, Or.inl rfl, in_X10, tyX10_ok, nmX10, tyX10_ok 0 (by decide), rfl, rfl⟩
theorem wd_654 : Cond.fieldLink "UtilityBoard$Thing" (25 : Nat) "UtilityBoard$Thing" "of" "I" ∈ lw_ok := lw_ok_mem (tb_2 _ (List.mem_of_getElem? (i := 76) (by decide +kernel))) rfl
theorem fl_X10_25 : FL RX10 25 10 1 := ⟨RX10, TX10, 10, "UtilityBoard$Thing", rfl, by decide, wd_654, Or.inl rfl, in_X10⟩
theorem fq_X10_25 : FPF RX10 25 10 1 .int := ⟨RX10, TX10, 10, "UtilityBoard$Thing", tyX10, rfl, by decide, wd_654, Or.inl rfl, in_X10, tyX10_ok, nmX10, tyX10_ok 1 (by decide), rfl, rfl⟩
theorem wd_656 : Cond.fieldLink "UtilityBoard$Thing" (28 : Nat) "UtilityBoard$Thing" "cloth" "LUtilityBoard$Cloth;" ∈ lw_ok := lw_ok_mem (tb_2 _ (List.mem_of_getElem? (i := 78) (by decide +kernel))) rfl
theorem fl_X10_28 : FL RX10 28 10 2 := ⟨RX10, TX10, 10, "UtilityBoard$Thing", rfl, by decide, wd_656, Or.inl rfl, in_X10⟩
theorem fq_X10_28 : FPF RX10 28 10 2 (.object "UtilityBoard$Cloth") := ⟨RX10, TX10, 10, "UtilityBoard$Thing", tyX10, rfl, by decide, wd_656, Or.inl rfl, in_X10, tyX10_ok, nmX10, tyX10_ok 2 (by decide), rfl, rfl⟩
theorem wd_658 : Cond.fieldLink "UtilityBoard$Thing" (32 : Nat) "UtilityBoard$Thing" "pockets" "I" ∈ lw_ok := lw_ok_mem (tb_2 _ (List.mem_of_getElem? (i := 80) (by decide +kernel))) rfl
theorem fl_X10_32 : FL RX10 32 10 3 := ⟨RX10, TX10, 10, "UtilityBoard$Thing", rfl, by decide, wd_658, Or.inl rfl, in_X10⟩
theorem fq_X10_32 : FPF RX10 32 10 3 .int := ⟨RX10, TX10, 10, "UtilityBoard$Thing", tyX10, rfl, by decide, wd_658, Or.inl rfl, in_X10, tyX10_ok, nmX10, tyX10_ok 3 (by decide), rfl, rfl⟩
theorem wd_660 : Cond.fieldLink "UtilityBoard$Thing" (35 : Nat) "UtilityBoard$Thing" "inches" "I" ∈ lw_ok := lw_ok_mem (tb_2 _ (List.mem_of_getElem? (i := 82) (by decide +kernel))) rfl
theorem fl_X10_35 : FL RX10 35 10 4 := ⟨RX10, TX10, 10, "UtilityBoard$Thing", rfl, by decide, wd_660, Or.inl rfl, in_X10⟩
theorem fq_X10_35 : FPF RX10 35 10 4 .int := ⟨RX10, TX10, 10, "UtilityBoard$Thing", tyX10, rfl, by decide, wd_660, Or.inl rfl, in_X10, tyX10_ok, nmX10, tyX10_ok 4 (by decide), rfl, rfl⟩
theorem wd_665 : Cond.fieldLink "UtilityBoard$Thing" (38 : Nat) "UtilityBoard$Thing" "lengths" "[I" ∈ lw_ok := lw_ok_mem (tb_2 _ (List.mem_of_getElem? (i := 87) (by decide +kernel))) rfl
theorem fl_X10_38 : FL RX10 38 10 6 := ⟨RX10, TX10, 10, "UtilityBoard$Thing", rfl, by decide, wd_665, Or.inl rfl, in_X10⟩
theorem fq_X10_38 : FPF RX10 38 10 6 (.array .int) := ⟨RX10, TX10, 10, "UtilityBoard$Thing", tyX10, rfl, by decide, wd_665, Or.inl rfl, in_X10, tyX10_ok, nmX10, tyX10_ok 6 (by decide), rfl, rfl⟩
theorem wd_667 : Cond.fieldLink "UtilityBoard$Thing" (41 : Nat) "UtilityBoard$Thing" "widths" "[I" ∈ lw_ok := lw_ok_mem (tb_2 _ (List.mem_of_getElem? (i := 89) (by decide +kernel))) rfl
theorem fl_X10_41 : FL RX10 41 10 7 := ⟨RX10, TX10, 10, "UtilityBoard$Thing", rfl, by decide, wd_667, Or.inl rfl, in_X10⟩
theorem fq_X10_41 : FPF RX10 41 10 7 (.array .int) := ⟨RX10, TX10, 10, "UtilityBoard$Thing", tyX10, rfl, by decide, wd_667, Or.inl rfl, in_X10, tyX10_ok, nmX10, tyX10_ok 7 (by decide), rfl, rfl⟩
theorem wd_424 : Cond.fieldLink "UtilityBoard$Thing" (54 : Nat) "UtilityBoard$Cloth" "number" "I" ∈ lw_ok := lw_ok_mem (tb_1 _ (List.mem_of_getElem? (i := 86) (by decide +kernel))) rfl
theorem fl_X10_54 : FL RX10 54 0 0 := ⟨RX0, TX0, 3, "UtilityBoard$Cloth", rfl, by decide, wd_424, Or.inl rfl, in_X0⟩
theorem wd_430 : Cond.fieldLink "UtilityBoard$Thing" (59 : Nat) "UtilityBoard$Cloth" "cost" "I" ∈ lw_ok := lw_ok_mem (tb_1 _ (List.mem_of_getElem? (i := 92) (by decide +kernel))) rfl
theorem fl_X10_59 : FL RX10 59 0 2 := ⟨RX0, TX0, 3, "UtilityBoard$Cloth", rfl, by decide, wd_430, Or.inl rfl, in_X0⟩
theorem wd_1287 : Cond.fieldLink "UtilityBoardModel" (7 : Nat) "UtilityBoardModel" "clothNumber" "[I" ∈ lw_ok := lw_ok_mem (tb_4 _ (List.mem_of_getElem? (i := 229) (by decide +kernel))) rfl
theorem fl_X12_7 : FL RX12 7 12 4 := ⟨RX12, TX12, 95, "UtilityBoardModel", rfl, by decide, wd_1287, Or.inl rfl, in_X12⟩
theorem fq_X12_7 : FPF RX12 7 12 4 (.array .int) := ⟨RX12, TX12, 95, "UtilityBoardModel", tyX12, rfl, by decide, wd_1287, Or.inl rfl, in_X12, tyX12_ok, nmX12, tyX12_ok 4 (by decide), rfl, rfl⟩
theorem wd_1288 : Cond.fieldLink "UtilityBoardModel" (13 : Nat) "UtilityBoardModel" "clothWear" "[I" ∈ lw_ok := lw_ok_mem (tb_4 _ (List.mem_of_getElem? (i := 230) (by decide +kernel))) rfl
theorem fl_X12_13 : FL RX12 13 12 5 := ⟨RX12, TX12, 95, "UtilityBoardModel", rfl, by decide, wd_1288, Or.inl rfl, in_X12⟩
theorem fq_X12_13 : FPF RX12 13 12 5 (.array .int) := ⟨RX12, TX12, 95, "UtilityBoardModel", tyX12, rfl, by decide, wd_1288, Or.inl rfl, in_X12, tyX12_ok, nmX12, tyX12_ok 5 (by decide), rfl, rfl⟩
theorem wd_1289 : Cond.fieldLink "UtilityBoardModel" (16 : Nat) "UtilityBoardModel" "clothCost" "[I" ∈ lw_ok := lw_ok_mem (tb_4 _ (List.mem_of_getElem? (i := 231) (by decide +kernel))) rfl
theorem fl_X12_16 : FL RX12 16 12 6 := ⟨RX12, TX12, 95, "UtilityBoardModel", rfl, by decide, wd_1289, Or.inl rfl, in_X12⟩
theorem fq_X12_16 : FPF RX12 16 12 6 (.array .int) := ⟨RX12, TX12, 95, "UtilityBoardModel", tyX12, rfl, by decide, wd_1289, Or.inl rfl, in_X12, tyX12_ok, nmX12, tyX12_ok 6 (by decide), rfl, rfl⟩
theorem wd_1290 : Cond.fieldLink "UtilityBoardModel" (19 : Nat) "UtilityBoardModel" "jointMany" "[I" ∈ lw_ok := lw_ok_mem (tb_4 _ (List.mem_of_getElem? (i := 232) (by decide +kernel))) rfl
theorem fl_X12_19 : FL RX12 19 12 7 := ⟨RX12, TX12, 95, "UtilityBoardModel", rfl, by decide, wd_1290, Or.inl rfl, in_X12⟩
theorem fq_X12_19 : FPF RX12 19 12 7 (.array .int) := ⟨RX12, TX12, 95, "UtilityBoardModel", tyX12, rfl, by decide, wd_1290, Or.inl rfl, in_X12, tyX12_ok, nmX12, tyX12_ok 7 (by decide), rfl, rfl⟩
theorem wd_1291 : Cond.fieldLink "UtilityBoardModel" (22 : Nat) "UtilityBoardModel" "stickMany" "[I" ∈ lw_ok := lw_ok_mem (tb_4 _ (List.mem_of_getElem? (i := 233) (by decide +kernel))) rfl
theorem fl_X12_22 : FL RX12 22 12 8 := ⟨RX12, TX12, 95, "UtilityBoardModel", rfl, by decide, wd_1291, Or.inl rfl, in_X12⟩
theorem fq_X12_22 : FPF RX12 22 12 8 (.array .int) := ⟨RX12, TX12, 95, "UtilityBoardModel", tyX12, rfl, by decide, wd_1291, Or.inl rfl, in_X12, tyX12_ok, nmX12, tyX12_ok 8 (by decide), rfl, rfl⟩
theorem wd_1292 : Cond.fieldLink "UtilityBoardModel" (25 : Nat) "UtilityBoardModel" "loadMany" "[I" ∈ lw_ok := lw_ok_mem (tb_4 _ (List.mem_of_getElem? (i := 234) (by decide +kernel))) rfl
theorem fl_X12_25 : FL RX12 25 12 9 := ⟨RX12, TX12, 95, "UtilityBoardModel", rfl, by decide, wd_1292, Or.inl rfl, in_X12⟩
theorem fq_X12_25 : FPF RX12 25 12 9 (.array .int) := ⟨RX12, TX12, 95, "UtilityBoardModel", tyX12, rfl, by decide, wd_1292, Or.inl rfl, in_X12, tyX12_ok, nmX12, tyX12_ok 9 (by decide), rfl, rfl⟩
theorem wd_1293 : Cond.fieldLink "UtilityBoardModel" (28 : Nat) "UtilityBoardModel" "stickA" "[I" ∈ lw_ok := lw_ok_mem (tb_4 _ (List.mem_of_getElem? (i := 235) (by decide +kernel))) rfl
theorem fl_X12_28 : FL RX12 28 12 10 := ⟨RX12, TX12, 95, "UtilityBoardModel", rfl, by decide, wd_1293, Or.inl rfl, in_X12⟩
theorem fq_X12_28 : FPF RX12 28 12 10 (.array .int) := ⟨RX12, TX12, 95, "UtilityBoardModel", tyX12, rfl, by decide, wd_1293, Or.inl rfl, in_X12, tyX12_ok, nmX12, tyX12_ok 10 (by decide), rfl, rfl⟩
theorem wd_1294 : Cond.fieldLink "UtilityBoardModel" (31 : Nat) "UtilityBoardModel" "stickB" "[I" ∈ lw_ok := lw_ok_mem (tb_4 _ (List.mem_of_getElem? (i := 236) (by decide +kernel))) rfl
theorem fl_X12_31 : FL RX12 31 12 11 := ⟨RX12, TX12, 95, "UtilityBoardModel", rfl, by decide, wd_1294, Or.inl rfl, in_X12⟩
theorem fq_X12_31 : FPF RX12 31 12 11 (.array .int) := ⟨RX12, TX12, 95, "UtilityBoardModel", tyX12, rfl, by decide, wd_1294, Or.inl rfl, in_X12, tyX12_ok, nmX12, tyX12_ok 11 (by decide), rfl, rfl⟩
theorem wd_1295 : Cond.fieldLink "UtilityBoardModel" (34 : Nat) "UtilityBoardModel" "stickTimber" "[I" ∈ lw_ok := lw_ok_mem (tb_4 _ (List.mem_of_getElem? (i := 237) (by decide +kernel))) rfl
theorem fl_X12_34 : FL RX12 34 12 12 := ⟨RX12, TX12, 95, "UtilityBoardModel", rfl, by decide, wd_1295, Or.inl rfl, in_X12⟩
theorem fq_X12_34 : FPF RX12 34 12 12 (.array .int) := ⟨RX12, TX12, 95, "UtilityBoardModel", tyX12, rfl, by decide, wd_1295, Or.inl rfl, in_X12, tyX12_ok, nmX12, tyX12_ok 12 (by decide), rfl, rfl⟩
theorem wd_1296 : Cond.fieldLink "UtilityBoardModel" (37 : Nat) "UtilityBoardModel" "loadAt" "[I" ∈ lw_ok := lw_ok_mem (tb_4 _ (List.mem_of_getElem? (i := 238) (by decide +kernel))) rfl
theorem fl_X12_37 : FL RX12 37 12 13 := ⟨RX12, TX12, 95, "UtilityBoardModel", rfl, by decide, wd_1296, Or.inl rfl, in_X12⟩
theorem fq_X12_37 : FPF RX12 37 12 13 (.array .int) := ⟨RX12, TX12, 95, "UtilityBoardModel", tyX12, rfl, by decide, wd_1296, Or.inl rfl, in_X12, tyX12_ok, nmX12, tyX12_ok 13 (by decide), rfl, rfl⟩
theorem wd_1297 : Cond.fieldLink "UtilityBoardModel" (40 : Nat) "UtilityBoardModel" "loadPounds" "[I" ∈ lw_ok := lw_ok_mem (tb_4 _ (List.mem_of_getElem? (i := 239) (by decide +kernel))) rfl
theorem fl_X12_40 : FL RX12 40 12 14 := ⟨RX12, TX12, 95, "UtilityBoardModel", rfl, by decide, wd_1297, Or.inl rfl, in_X12⟩
theorem fq_X12_40 : FPF RX12 40 12 14 (.array .int) := ⟨RX12, TX12, 95, "UtilityBoardModel", tyX12, rfl, by decide, wd_1297, Or.inl rfl, in_X12, tyX12_ok, nmX12, tyX12_ok 14 (by decide), rfl, rfl⟩
theorem wd_1298 : Cond.fieldLink "UtilityBoardModel" (43 : Nat) "UtilityBoardModel" "thingKind" "[I" ∈ lw_ok := lw_ok_mem (tb_5 _ (List.mem_of_getElem? (i := 0) (by decide +kernel))) rfl
theorem fl_X12_43 : FL RX12 43 12 15 := ⟨RX12, TX12, 95, "UtilityBoardModel", rfl, by decide, wd_1298, Or.inl rfl, in_X12⟩
theorem fq_X12_43 : FPF RX12 43 12 15 (.array .int) := ⟨RX12, TX12, 95, "UtilityBoardModel", tyX12, rfl, by decide, wd_1298, Or.inl rfl, in_X12, tyX12_ok, nmX12, tyX12_ok 15 (by decide), rfl, rfl⟩
theorem wd_1299 : Cond.fieldLink "UtilityBoardModel" (46 : Nat) "UtilityBoardModel" "thingOf" "[I" ∈ lw_ok := lw_ok_mem (tb_5 _ (List.mem_of_getElem? (i := 1) (by decide +kernel))) rfl
theorem fl_X12_46 : FL RX12 46 12 16 := ⟨RX12, TX12, 95, "UtilityBoardModel", rfl, by decide, wd_1299, Or.inl rfl, in_X12⟩
theorem fq_X12_46 : FPF RX12 46 12 16 (.array .int) := ⟨RX12, TX12, 95, "UtilityBoardModel", tyX12, rfl, by decide, wd_1299, Or.inl rfl, in_X12, tyX12_ok, nmX12, tyX12_ok 16 (by decide), rfl, rfl⟩
theorem wd_1300 : Cond.fieldLink "UtilityBoardModel" (49 : Nat) "UtilityBoardModel" "pocketsOf" "[I" ∈ lw_ok := lw_ok_mem (tb_5 _ (List.mem_of_getElem? (i := 2) (by decide +kernel))) rfl
theorem fl_X12_49 : FL RX12 49 12 17 := ⟨RX12, TX12, 95, "UtilityBoardModel", rfl, by decide, wd_1300, Or.inl rfl, in_X12⟩
theorem fq_X12_49 : FPF RX12 49 12 17 (.array .int) := ⟨RX12, TX12, 95, "UtilityBoardModel", tyX12, rfl, by decide, wd_1300, Or.inl rfl, in_X12, tyX12_ok, nmX12, tyX12_ok 17 (by decide), rfl, rfl⟩
theorem wd_1301 : Cond.fieldLink "UtilityBoardModel" (52 : Nat) "UtilityBoardModel" "inchesOf" "[I" ∈ lw_ok := lw_ok_mem (tb_5 _ (List.mem_of_getElem? (i := 3) (by decide +kernel))) rfl
theorem fl_X12_52 : FL RX12 52 12 18 := ⟨RX12, TX12, 95, "UtilityBoardModel", rfl, by decide, wd_1301, Or.inl rfl, in_X12⟩
theorem fq_X12_52 : FPF RX12 52 12 18 (.array .int) := ⟨RX12, TX12, 95, "UtilityBoardModel", tyX12, rfl, by decide, wd_1301, Or.inl rfl, in_X12, tyX12_ok, nmX12, tyX12_ok 18 (by decide), rfl, rfl⟩
theorem wd_1302 : Cond.fieldLink "UtilityBoardModel" (55 : Nat) "UtilityBoardModel" "priceOf" "[I" ∈ lw_ok := lw_ok_mem (tb_5 _ (List.mem_of_getElem? (i := 4) (by decide +kernel))) rfl
theorem fl_X12_55 : FL RX12 55 12 19 := ⟨RX12, TX12, 95, "UtilityBoardModel", rfl, by decide, wd_1302, Or.inl rfl, in_X12⟩
theorem fq_X12_55 : FPF RX12 55 12 19 (.array .int) := ⟨RX12, TX12, 95, "UtilityBoardModel", tyX12, rfl, by decide, wd_1302, Or.inl rfl, in_X12, tyX12_ok, nmX12, tyX12_ok 19 (by decide), rfl, rfl⟩
theorem wd_1303 : Cond.fieldLink "UtilityBoardModel" (58 : Nat) "UtilityBoardModel" "plain" "[I" ∈ lw_ok := lw_ok_mem (tb_5 _ (List.mem_of_getElem? (i := 5) (by decide +kernel))) rfl
theorem fl_X12_58 : FL RX12 58 12 20 := ⟨RX12, TX12, 95, "UtilityBoardModel", rfl, by decide, wd_1303, Or.inl rfl, in_X12⟩
theorem fq_X12_58 : FPF RX12 58 12 20 (.array .int) := ⟨RX12, TX12, 95, "UtilityBoardModel", tyX12, rfl, by decide, wd_1303, Or.inl rfl, in_X12, tyX12_ok, nmX12, tyX12_ok 20 (by decide), rfl, rfl⟩
theorem wd_1304 : Cond.fieldLink "UtilityBoardModel" (61 : Nat) "UtilityBoardModel" "marked" "[I" ∈ lw_ok := lw_ok_mem (tb_5 _ (List.mem_of_getElem? (i := 6) (by decide +kernel))) rfl
theorem fl_X12_61 : FL RX12 61 12 21 := ⟨RX12, TX12, 95, "UtilityBoardModel", rfl, by decide, wd_1304, Or.inl rfl, in_X12⟩
theorem fq_X12_61 : FPF RX12 61 12 21 (.array .int) := ⟨RX12, TX12, 95, "UtilityBoardModel", tyX12, rfl, by decide, wd_1304, Or.inl rfl, in_X12, tyX12_ok, nmX12, tyX12_ok 21 (by decide), rfl, rfl⟩
theorem wd_1305 : Cond.fieldLink "UtilityBoardModel" (64 : Nat) "UtilityBoardModel" "pieceMany" "[I" ∈ lw_ok := lw_ok_mem (tb_5 _ (List.mem_of_getElem? (i := 7) (by decide +kernel))) rfl
theorem fl_X12_64 : FL RX12 64 12 22 := ⟨RX12, TX12, 95, "UtilityBoardModel", rfl, by decide, wd_1305, Or.inl rfl, in_X12⟩
theorem fq_X12_64 : FPF RX12 64 12 22 (.array .int) := ⟨RX12, TX12, 95, "UtilityBoardModel", tyX12, rfl, by decide, wd_1305, Or.inl rfl, in_X12, tyX12_ok, nmX12, tyX12_ok 22 (by decide), rfl, rfl⟩
theorem wd_1306 : Cond.fieldLink "UtilityBoardModel" (67 : Nat) "UtilityBoardModel" "pieceLong" "[I" ∈ lw_ok := lw_ok_mem (tb_5 _ (List.mem_of_getElem? (i := 8) (by decide +kernel))) rfl
theorem fl_X12_67 : FL RX12 67 12 23 := ⟨RX12, TX12, 95, "UtilityBoardModel", rfl, by decide, wd_1306, Or.inl rfl, in_X12⟩
theorem fq_X12_67 : FPF RX12 67 12 23 (.array .int) := ⟨RX12, TX12, 95, "UtilityBoardModel", tyX12, rfl, by decide, wd_1306, Or.inl rfl, in_X12, tyX12_ok, nmX12, tyX12_ok 23 (by decide), rfl, rfl⟩
theorem wd_1307 : Cond.fieldLink "UtilityBoardModel" (70 : Nat) "UtilityBoardModel" "pieceWide" "[I" ∈ lw_ok := lw_ok_mem (tb_5 _ (List.mem_of_getElem? (i := 9) (by decide +kernel))) rfl
theorem fl_X12_70 : FL RX12 70 12 24 := ⟨RX12, TX12, 95, "UtilityBoardModel", rfl, by decide, wd_1307, Or.inl rfl, in_X12⟩
theorem fq_X12_70 : FPF RX12 70 12 24 (.array .int) := ⟨RX12, TX12, 95, "UtilityBoardModel", tyX12, rfl, by decide, wd_1307, Or.inl rfl, in_X12, tyX12_ok, nmX12, tyX12_ok 24 (by decide), rfl, rfl⟩
theorem wd_1308 : Cond.fieldLink "UtilityBoardModel" (73 : Nat) "UtilityBoardModel" "choice" "[I" ∈ lw_ok := lw_ok_mem (tb_5 _ (List.mem_of_getElem? (i := 10) (by decide +kernel))) rfl
theorem fl_X12_73 : FL RX12 73 12 25 := ⟨RX12, TX12, 95, "UtilityBoardModel", rfl, by decide, wd_1308, Or.inl rfl, in_X12⟩
theorem fq_X12_73 : FPF RX12 73 12 25 (.array .int) := ⟨RX12, TX12, 95, "UtilityBoardModel", tyX12, rfl, by decide, wd_1308, Or.inl rfl, in_X12, tyX12_ok, nmX12, tyX12_ok 25 (by decide), rfl, rfl⟩
theorem wd_1309 : Cond.fieldLink "UtilityBoardModel" (76 : Nat) "UtilityBoardModel" "bestChoice" "[I" ∈ lw_ok := lw_ok_mem (tb_5 _ (List.mem_of_getElem? (i := 11) (by decide +kernel))) rfl
theorem fl_X12_76 : FL RX12 76 12 26 := ⟨RX12, TX12, 95, "UtilityBoardModel", rfl, by decide, wd_1309, Or.inl rfl, in_X12⟩
theorem fq_X12_76 : FPF RX12 76 12 26 (.array .int) := ⟨RX12, TX12, 95, "UtilityBoardModel", tyX12, rfl, by decide, wd_1309, Or.inl rfl, in_X12, tyX12_ok, nmX12, tyX12_ok 26 (by decide), rfl, rfl⟩
theorem wd_1310 : Cond.fieldLink "UtilityBoardModel" (79 : Nat) "UtilityBoardModel" "flow" "[I" ∈ lw_ok := lw_ok_mem (tb_5 _ (List.mem_of_getElem? (i := 12) (by decide +kernel))) rfl
theorem fl_X12_79 : FL RX12 79 12 27 := ⟨RX12, TX12, 95, "UtilityBoardModel", rfl, by decide, wd_1310, Or.inl rfl, in_X12⟩
theorem fq_X12_79 : FPF RX12 79 12 27 (.array .int) := ⟨RX12, TX12, 95, "UtilityBoardModel", tyX12, rfl, by decide, wd_1310, Or.inl rfl, in_X12, tyX12_ok, nmX12, tyX12_ok 27 (by decide), rfl, rfl⟩
theorem wd_1311 : Cond.fieldLink "UtilityBoardModel" (82 : Nat) "UtilityBoardModel" "cameBy" "[I" ∈ lw_ok := lw_ok_mem (tb_5 _ (List.mem_of_getElem? (i := 13) (by decide +kernel))) rfl
theorem fl_X12_82 : FL RX12 82 12 28 := ⟨RX12, TX12, 95, "UtilityBoardModel", rfl, by decide, wd_1311, Or.inl rfl, in_X12⟩
theorem fq_X12_82 : FPF RX12 82 12 28 (.array .int) := ⟨RX12, TX12, 95, "UtilityBoardModel", tyX12, rfl, by decide, wd_1311, Or.inl rfl, in_X12, tyX12_ok, nmX12, tyX12_ok 28 (by decide), rfl, rfl⟩
theorem wd_1312 : Cond.fieldLink "UtilityBoardModel" (85 : Nat) "UtilityBoardModel" "row" "[I" ∈ lw_ok := lw_ok_mem (tb_5 _ (List.mem_of_getElem? (i := 14) (by decide +kernel))) rfl
theorem fl_X12_85 : FL RX12 85 12 29 := ⟨RX12, TX12, 95, "UtilityBoardModel", rfl, by decide, wd_1312, Or.inl rfl, in_X12⟩
theorem fq_X12_85 : FPF RX12 85 12 29 (.array .int) := ⟨RX12, TX12, 95, "UtilityBoardModel", tyX12, rfl, by decide, wd_1312, Or.inl rfl, in_X12, tyX12_ok, nmX12, tyX12_ok 29 (by decide), rfl, rfl⟩
theorem wd_1313 : Cond.fieldLink "UtilityBoardModel" (88 : Nat) "UtilityBoardModel" "bestRow" "[I" ∈ lw_ok := lw_ok_mem (tb_5 _ (List.mem_of_getElem? (i := 15) (by decide +kernel))) rfl
theorem fl_X12_88 : FL RX12 88 12 30 := ⟨RX12, TX12, 95, "UtilityBoardModel", rfl, by decide, wd_1313, Or.inl rfl, in_X12⟩
theorem fq_X12_88 : FPF RX12 88 12 30 (.array .int) := ⟨RX12, TX12, 95, "UtilityBoardModel", tyX12, rfl, by decide, wd_1313, Or.inl rfl, in_X12, tyX12_ok, nmX12, tyX12_ok 30 (by decide), rfl, rfl⟩
theorem wd_1315 : Cond.fieldLink "UtilityBoardModel" (91 : Nat) "UtilityBoardModel" "townOf" "[I" ∈ lw_ok := lw_ok_mem (tb_5 _ (List.mem_of_getElem? (i := 17) (by decide +kernel))) rfl
theorem fl_X12_91 : FL RX12 91 12 32 := ⟨RX12, TX12, 95, "UtilityBoardModel", rfl, by decide, wd_1315, Or.inl rfl, in_X12⟩
theorem fq_X12_91 : FPF RX12 91 12 32 (.array .int) := ⟨RX12, TX12, 95, "UtilityBoardModel", tyX12, rfl, by decide, wd_1315, Or.inl rfl, in_X12, tyX12_ok, nmX12, tyX12_ok 32 (by decide), rfl, rfl⟩
theorem wd_1316 : Cond.fieldLink "UtilityBoardModel" (94 : Nat) "UtilityBoardModel" "plantOf" "[I" ∈ lw_ok := lw_ok_mem (tb_5 _ (List.mem_of_getElem? (i := 18) (by decide +kernel))) rfl
theorem fl_X12_94 : FL RX12 94 12 33 := ⟨RX12, TX12, 95, "UtilityBoardModel", rfl, by decide, wd_1316, Or.inl rfl, in_X12⟩
theorem fq_X12_94 : FPF RX12 94 12 33 (.array .int) := ⟨RX12, TX12, 95, "UtilityBoardModel", tyX12, rfl, by decide, wd_1316, Or.inl rfl, in_X12, tyX12_ok, nmX12, tyX12_ok 33 (by decide), rfl, rfl⟩
theorem wd_1317 : Cond.fieldLink "UtilityBoardModel" (97 : Nat) "UtilityBoardModel" "handsOf" "[I" ∈ lw_ok := lw_ok_mem (tb_5 _ (List.mem_of_getElem? (i := 19) (by decide +kernel))) rfl
theorem fl_X12_97 : FL RX12 97 12 34 := ⟨RX12, TX12, 95, "UtilityBoardModel", rfl, by decide, wd_1317, Or.inl rfl, in_X12⟩
theorem fq_X12_97 : FPF RX12 97 12 34 (.array .int) := ⟨RX12, TX12, 95, "UtilityBoardModel", tyX12, rfl, by decide, wd_1317, Or.inl rfl, in_X12, tyX12_ok, nmX12, tyX12_ok 34 (by decide), rfl, rfl⟩
theorem wd_1318 : Cond.fieldLink "UtilityBoardModel" (100 : Nat) "UtilityBoardModel" "rateOf" "[I" ∈ lw_ok := lw_ok_mem (tb_5 _ (List.mem_of_getElem? (i := 20) (by decide +kernel))) rfl
theorem fl_X12_100 : FL RX12 100 12 35 := ⟨RX12, TX12, 95, "UtilityBoardModel", rfl, by decide, wd_1318, Or.inl rfl, in_X12⟩
theorem fq_X12_100 : FPF RX12 100 12 35 (.array .int) := ⟨RX12, TX12, 95, "UtilityBoardModel", tyX12, rfl, by decide, wd_1318, Or.inl rfl, in_X12, tyX12_ok, nmX12, tyX12_ok 35 (by decide), rfl, rfl⟩
theorem wd_1319 : Cond.fieldLink "UtilityBoardModel" (103 : Nat) "UtilityBoardModel" "hireOf" "[I" ∈ lw_ok := lw_ok_mem (tb_5 _ (List.mem_of_getElem? (i := 21) (by decide +kernel))) rfl
theorem fl_X12_103 : FL RX12 103 12 36 := ⟨RX12, TX12, 95, "UtilityBoardModel", rfl, by decide, wd_1319, Or.inl rfl, in_X12⟩
theorem fq_X12_103 : FPF RX12 103 12 36 (.array .int) := ⟨RX12, TX12, 95, "UtilityBoardModel", tyX12, rfl, by decide, wd_1319, Or.inl rfl, in_X12, tyX12_ok, nmX12, tyX12_ok 36 (by decide), rfl, rfl⟩
theorem wd_1320 : Cond.fieldLink "UtilityBoardModel" (106 : Nat) "UtilityBoardModel" "yardsOf" "[I" ∈ lw_ok := lw_ok_mem (tb_5 _ (List.mem_of_getElem? (i := 22) (by decide +kernel))) rfl
theorem fl_X12_106 : FL RX12 106 12 37 := ⟨RX12, TX12, 95, "UtilityBoardModel", rfl, by decide, wd_1320, Or.inl rfl, in_X12⟩
theorem fq_X12_106 : FPF RX12 106 12 37 (.array .int) := ⟨RX12, TX12, 95, "UtilityBoardModel", tyX12, rfl, by decide, wd_1320, Or.inl rfl, in_X12, tyX12_ok, nmX12, tyX12_ok 37 (by decide), rfl, rfl⟩
theorem wd_1321 : Cond.fieldLink "UtilityBoardModel" (109 : Nat) "UtilityBoardModel" "madeNow" "[I" ∈ lw_ok := lw_ok_mem (tb_5 _ (List.mem_of_getElem? (i := 23) (by decide +kernel))) rfl
theorem fl_X12_109 : FL RX12 109 12 38 := ⟨RX12, TX12, 95, "UtilityBoardModel", rfl, by decide, wd_1321, Or.inl rfl, in_X12⟩
theorem fq_X12_109 : FPF RX12 109 12 38 (.array .int) := ⟨RX12, TX12, 95, "UtilityBoardModel", tyX12, rfl, by decide, wd_1321, Or.inl rfl, in_X12, tyX12_ok, nmX12, tyX12_ok 38 (by decide), rfl, rfl⟩
theorem wd_1322 : Cond.fieldLink "UtilityBoardModel" (112 : Nat) "UtilityBoardModel" "isNamed" "[Z" ∈ lw_ok := lw_ok_mem (tb_5 _ (List.mem_of_getElem? (i := 24) (by decide +kernel))) rfl
theorem fl_X12_112 : FL RX12 112 12 39 := ⟨RX12, TX12, 95, "UtilityBoardModel", rfl, by decide, wd_1322, Or.inl rfl, in_X12⟩
theorem fq_X12_112 : FPF RX12 112 12 39 (.array .boolean) := ⟨RX12, TX12, 95, "UtilityBoardModel", tyX12, rfl, by decide, wd_1322, Or.inl rfl, in_X12, tyX12_ok, nmX12, tyX12_ok 39 (by decide), rfl, rfl⟩
theorem wd_1323 : Cond.fieldLink "UtilityBoardModel" (116 : Nat) "UtilityBoardModel" "tape" "[B" ∈ lw_ok := lw_ok_mem (tb_5 _ (List.mem_of_getElem? (i := 25) (by decide +kernel))) rfl
theorem fl_X12_116 : FL RX12 116 12 40 := ⟨RX12, TX12, 95, "UtilityBoardModel", rfl, by decide, wd_1323, Or.inl rfl, in_X12⟩
theorem fq_X12_116 : FPF RX12 116 12 40 (.array .byte) := ⟨RX12, TX12, 95, "UtilityBoardModel", tyX12, rfl, by decide, wd_1323, Or.inl rfl, in_X12, tyX12_ok, nmX12, tyX12_ok 40 (by decide), rfl, rfl⟩
theorem wd_1333 : Cond.fieldLink "UtilityBoardModel" (120 : Nat) "UtilityBoardModel" "said" "[I" ∈ lw_ok := lw_ok_mem (tb_5 _ (List.mem_of_getElem? (i := 35) (by decide +kernel))) rfl
theorem fl_X12_120 : FL RX12 120 12 50 := ⟨RX12, TX12, 95, "UtilityBoardModel", rfl, by decide, wd_1333, Or.inl rfl, in_X12⟩
theorem fq_X12_120 : FPF RX12 120 12 50 (.array .int) := ⟨RX12, TX12, 95, "UtilityBoardModel", tyX12, rfl, by decide, wd_1333, Or.inl rfl, in_X12, tyX12_ok, nmX12, tyX12_ok 50 (by decide), rfl, rfl⟩
theorem wd_1334 : Cond.fieldLink "UtilityBoardModel" (123 : Nat) "UtilityBoardModel" "waits" "[I" ∈ lw_ok := lw_ok_mem (tb_5 _ (List.mem_of_getElem? (i := 36) (by decide +kernel))) rfl
theorem fl_X12_123 : FL RX12 123 12 51 := ⟨RX12, TX12, 95, "UtilityBoardModel", rfl, by decide, wd_1334, Or.inl rfl, in_X12⟩
theorem fq_X12_123 : FPF RX12 123 12 51 (.array .int) := ⟨RX12, TX12, 95, "UtilityBoardModel", tyX12, rfl, by decide, wd_1334, Or.inl rfl, in_X12, tyX12_ok, nmX12, tyX12_ok 51 (by decide), rfl, rfl⟩
theorem wd_1335 : Cond.fieldLink "UtilityBoardModel" (126 : Nat) "UtilityBoardModel" "saidLetter" "[I" ∈ lw_ok := lw_ok_mem (tb_5 _ (List.mem_of_getElem? (i := 37) (by decide +kernel))) rfl
theorem fl_X12_126 : FL RX12 126 12 52 := ⟨RX12, TX12, 95, "UtilityBoardModel", rfl, by decide, wd_1335, Or.inl rfl, in_X12⟩
theorem fq_X12_126 : FPF RX12 126 12 52 (.array .int) := ⟨RX12, TX12, 95, "UtilityBoardModel", tyX12, rfl, by decide, wd_1335, Or.inl rfl, in_X12, tyX12_ok, nmX12, tyX12_ok 52 (by decide), rfl, rfl⟩
theorem wd_1336 : Cond.fieldLink "UtilityBoardModel" (129 : Nat) "UtilityBoardModel" "saidFrom" "[I" ∈ lw_ok := lw_ok_mem (tb_5 _ (List.mem_of_getElem? (i := 38) (by decide +kernel))) rfl
theorem fl_X12_129 : FL RX12 129 12 53 := ⟨RX12, TX12, 95, "UtilityBoardModel", rfl, by decide, wd_1336, Or.inl rfl, in_X12⟩
theorem fq_X12_129 : FPF RX12 129 12 53 (.array .int) := ⟨RX12, TX12, 95, "UtilityBoardModel", tyX12, rfl, by decide, wd_1336, Or.inl rfl, in_X12, tyX12_ok, nmX12, tyX12_ok 53 (by decide), rfl, rfl⟩
theorem wd_1337 : Cond.fieldLink "UtilityBoardModel" (132 : Nat) "UtilityBoardModel" "saidTo" "[I" ∈ lw_ok := lw_ok_mem (tb_5 _ (List.mem_of_getElem? (i := 39) (by decide +kernel))) rfl
theorem fl_X12_132 : FL RX12 132 12 54 := ⟨RX12, TX12, 95, "UtilityBoardModel", rfl, by decide, wd_1337, Or.inl rfl, in_X12⟩
theorem fq_X12_132 : FPF RX12 132 12 54 (.array .int) := ⟨RX12, TX12, 95, "UtilityBoardModel", tyX12, rfl, by decide, wd_1337, Or.inl rfl, in_X12, tyX12_ok, nmX12, tyX12_ok 54 (by decide), rfl, rfl⟩
theorem wd_1338 : Cond.fieldLink "UtilityBoardModel" (135 : Nat) "UtilityBoardModel" "saidN" "[I" ∈ lw_ok := lw_ok_mem (tb_5 _ (List.mem_of_getElem? (i := 40) (by decide +kernel))) rfl
theorem fl_X12_135 : FL RX12 135 12 55 := ⟨RX12, TX12, 95, "UtilityBoardModel", rfl, by decide, wd_1338, Or.inl rfl, in_X12⟩
theorem fq_X12_135 : FPF RX12 135 12 55 (.array .int) := ⟨RX12, TX12, 95, "UtilityBoardModel", tyX12, rfl, by decide, wd_1338, Or.inl rfl, in_X12, tyX12_ok, nmX12, tyX12_ok 55 (by decide), rfl, rfl⟩
theorem wd_1339 : Cond.fieldLink "UtilityBoardModel" (138 : Nat) "UtilityBoardModel" "saidJ" "[I" ∈ lw_ok := lw_ok_mem (tb_5 _ (List.mem_of_getElem? (i := 41) (by decide +kernel))) rfl
theorem fl_X12_138 : FL RX12 138 12 56 := ⟨RX12, TX12, 95, "UtilityBoardModel", rfl, by decide, wd_1339, Or.inl rfl, in_X12⟩
theorem fq_X12_138 : FPF RX12 138 12 56 (.array .int) := ⟨RX12, TX12, 95, "UtilityBoardModel", tyX12, rfl, by decide, wd_1339, Or.inl rfl, in_X12, tyX12_ok, nmX12, tyX12_ok 56 (by decide), rfl, rfl⟩
theorem wd_1341 : Cond.fieldLink "UtilityBoardModel" (141 : Nat) "UtilityBoardModel" "without" "I" ∈ lw_ok := lw_ok_mem (tb_5 _ (List.mem_of_getElem? (i := 43) (by decide +kernel))) rfl
theorem fl_X12_141 : FL RX12 141 12 58 := ⟨RX12, TX12, 95, "UtilityBoardModel", rfl, by decide, wd_1341, Or.inl rfl, in_X12⟩
theorem fp_X12_141 : FP RX12 141 12 58 .int := ⟨RX12, TX12, 95, "UtilityBoardModel", tyX12, rfl, by decide, wd_1341, Or.inl rfl, in_X12, tyX12_ok, nmX12, tyX12_ok 58 (by decide), rfl⟩
theorem wd_1342 : Cond.fieldLink "UtilityBoardModel" (145 : Nat) "UtilityBoardModel" "codes" "[I" ∈ lw_ok := lw_ok_mem (tb_5 _ (List.mem_of_getElem? (i := 44) (by decide +kernel))) rfl
theorem fl_X12_145 : FL RX12 145 12 59 := ⟨RX12, TX12, 95, "UtilityBoardModel", rfl, by decide, wd_1342, Or.inl rfl, in_X12⟩
theorem fq_X12_145 : FPF RX12 145 12 59 (.array .int) := ⟨RX12, TX12, 95, "UtilityBoardModel", tyX12, rfl, by decide, wd_1342, Or.inl rfl, in_X12, tyX12_ok, nmX12, tyX12_ok 59 (by decide), rfl, rfl⟩
theorem wd_1343 : Cond.fieldLink "UtilityBoardModel" (148 : Nat) "UtilityBoardModel" "orderFrom" "[I" ∈ lw_ok := lw_ok_mem (tb_5 _ (List.mem_of_getElem? (i := 45) (by decide +kernel))) rfl
theorem fl_X12_148 : FL RX12 148 12 60 := ⟨RX12, TX12, 95, "UtilityBoardModel", rfl, by decide, wd_1343, Or.inl rfl, in_X12⟩
theorem fq_X12_148 : FPF RX12 148 12 60 (.array .int) := ⟨RX12, TX12, 95, "UtilityBoardModel", tyX12, rfl, by decide, wd_1343, Or.inl rfl, in_X12, tyX12_ok, nmX12, tyX12_ok 60 (by decide), rfl, rfl⟩
theorem wd_1344 : Cond.fieldLink "UtilityBoardModel" (151 : Nat) "UtilityBoardModel" "orderTo" "[I" ∈ lw_ok := lw_ok_mem (tb_5 _ (List.mem_of_getElem? (i := 46) (by decide +kernel))) rfl
theorem fl_X12_151 : FL RX12 151 12 61 := ⟨RX12, TX12, 95, "UtilityBoardModel", rfl, by decide, wd_1344, Or.inl rfl, in_X12⟩
theorem fq_X12_151 : FPF RX12 151 12 61 (.array .int) := ⟨RX12, TX12, 95, "UtilityBoardModel", tyX12, rfl, by decide, wd_1344, Or.inl rfl, in_X12, tyX12_ok, nmX12, tyX12_ok 61 (by decide), rfl, rfl⟩
theorem wd_1345 : Cond.fieldLink "UtilityBoardModel" (154 : Nat) "UtilityBoardModel" "orderTold" "[I" ∈ lw_ok := lw_ok_mem (tb_5 _ (List.mem_of_getElem? (i := 47) (by decide +kernel))) rfl
theorem fl_X12_154 : FL RX12 154 12 62 := ⟨RX12, TX12, 95, "UtilityBoardModel", rfl, by decide, wd_1345, Or.inl rfl, in_X12⟩
theorem fq_X12_154 : FPF RX12 154 12 62 (.array .int) := ⟨RX12, TX12, 95, "UtilityBoardModel", tyX12, rfl, by decide, wd_1345, Or.inl rfl, in_X12, tyX12_ok, nmX12, tyX12_ok 62 (by decide), rfl, rfl⟩
theorem wd_1346 : Cond.fieldLink "UtilityBoardModel" (157 : Nat) "UtilityBoardModel" "clauseMany" "[I" ∈ lw_ok := lw_ok_mem (tb_5 _ (List.mem_of_getElem? (i := 48) (by decide +kernel))) rfl
theorem fl_X12_157 : FL RX12 157 12 63 := ⟨RX12, TX12, 95, "UtilityBoardModel", rfl, by decide, wd_1346, Or.inl rfl, in_X12⟩
theorem fq_X12_157 : FPF RX12 157 12 63 (.array .int) := ⟨RX12, TX12, 95, "UtilityBoardModel", tyX12, rfl, by decide, wd_1346, Or.inl rfl, in_X12, tyX12_ok, nmX12, tyX12_ok 63 (by decide), rfl, rfl⟩
theorem wd_1347 : Cond.fieldLink "UtilityBoardModel" (160 : Nat) "UtilityBoardModel" "letterOf" "[I" ∈ lw_ok := lw_ok_mem (tb_5 _ (List.mem_of_getElem? (i := 49) (by decide +kernel))) rfl
theorem fl_X12_160 : FL RX12 160 12 64 := ⟨RX12, TX12, 95, "UtilityBoardModel", rfl, by decide, wd_1347, Or.inl rfl, in_X12⟩
theorem fq_X12_160 : FPF RX12 160 12 64 (.array .int) := ⟨RX12, TX12, 95, "UtilityBoardModel", tyX12, rfl, by decide, wd_1347, Or.inl rfl, in_X12, tyX12_ok, nmX12, tyX12_ok 64 (by decide), rfl, rfl⟩
theorem wd_1348 : Cond.fieldLink "UtilityBoardModel" (163 : Nat) "UtilityBoardModel" "codeFrom" "[I" ∈ lw_ok := lw_ok_mem (tb_5 _ (List.mem_of_getElem? (i := 50) (by decide +kernel))) rfl
theorem fl_X12_163 : FL RX12 163 12 65 := ⟨RX12, TX12, 95, "UtilityBoardModel", rfl, by decide, wd_1348, Or.inl rfl, in_X12⟩
theorem fq_X12_163 : FPF RX12 163 12 65 (.array .int) := ⟨RX12, TX12, 95, "UtilityBoardModel", tyX12, rfl, by decide, wd_1348, Or.inl rfl, in_X12, tyX12_ok, nmX12, tyX12_ok 65 (by decide), rfl, rfl⟩
theorem wd_1349 : Cond.fieldLink "UtilityBoardModel" (166 : Nat) "UtilityBoardModel" "codeTo" "[I" ∈ lw_ok := lw_ok_mem (tb_5 _ (List.mem_of_getElem? (i := 51) (by decide +kernel))) rfl
theorem fl_X12_166 : FL RX12 166 12 66 := ⟨RX12, TX12, 95, "UtilityBoardModel", rfl, by decide, wd_1349, Or.inl rfl, in_X12⟩
theorem fq_X12_166 : FPF RX12 166 12 66 (.array .int) := ⟨RX12, TX12, 95, "UtilityBoardModel", tyX12, rfl, by decide, wd_1349, Or.inl rfl, in_X12, tyX12_ok, nmX12, tyX12_ok 66 (by decide), rfl, rfl⟩
theorem wd_1350 : Cond.fieldLink "UtilityBoardModel" (169 : Nat) "UtilityBoardModel" "nOf" "[I" ∈ lw_ok := lw_ok_mem (tb_5 _ (List.mem_of_getElem? (i := 52) (by decide +kernel))) rfl
theorem fl_X12_169 : FL RX12 169 12 67 := ⟨RX12, TX12, 95, "UtilityBoardModel", rfl, by decide, wd_1350, Or.inl rfl, in_X12⟩
theorem fq_X12_169 : FPF RX12 169 12 67 (.array .int) := ⟨RX12, TX12, 95, "UtilityBoardModel", tyX12, rfl, by decide, wd_1350, Or.inl rfl, in_X12, tyX12_ok, nmX12, tyX12_ok 67 (by decide), rfl, rfl⟩
theorem wd_1351 : Cond.fieldLink "UtilityBoardModel" (172 : Nat) "UtilityBoardModel" "jOf" "[I" ∈ lw_ok := lw_ok_mem (tb_5 _ (List.mem_of_getElem? (i := 53) (by decide +kernel))) rfl
theorem fl_X12_172 : FL RX12 172 12 68 := ⟨RX12, TX12, 95, "UtilityBoardModel", rfl, by decide, wd_1351, Or.inl rfl, in_X12⟩
theorem fq_X12_172 : FPF RX12 172 12 68 (.array .int) := ⟨RX12, TX12, 95, "UtilityBoardModel", tyX12, rfl, by decide, wd_1351, Or.inl rfl, in_X12, tyX12_ok, nmX12, tyX12_ok 68 (by decide), rfl, rfl⟩
theorem wd_1352 : Cond.fieldLink "UtilityBoardModel" (175 : Nat) "UtilityBoardModel" "isStruck" "[Z" ∈ lw_ok := lw_ok_mem (tb_5 _ (List.mem_of_getElem? (i := 54) (by decide +kernel))) rfl
theorem fl_X12_175 : FL RX12 175 12 69 := ⟨RX12, TX12, 95, "UtilityBoardModel", rfl, by decide, wd_1352, Or.inl rfl, in_X12⟩
theorem fq_X12_175 : FPF RX12 175 12 69 (.array .boolean) := ⟨RX12, TX12, 95, "UtilityBoardModel", tyX12, rfl, by decide, wd_1352, Or.inl rfl, in_X12, tyX12_ok, nmX12, tyX12_ok 69 (by decide), rfl, rfl⟩
theorem wd_1353 : Cond.fieldLink "UtilityBoardModel" (178 : Nat) "UtilityBoardModel" "stack" "[I" ∈ lw_ok := lw_ok_mem (tb_5 _ (List.mem_of_getElem? (i := 55) (by decide +kernel))) rfl
theorem fl_X12_178 : FL RX12 178 12 70 := ⟨RX12, TX12, 95, "UtilityBoardModel", rfl, by decide, wd_1353, Or.inl rfl, in_X12⟩
theorem fq_X12_178 : FPF RX12 178 12 70 (.array .int) := ⟨RX12, TX12, 95, "UtilityBoardModel", tyX12, rfl, by decide, wd_1353, Or.inl rfl, in_X12, tyX12_ok, nmX12, tyX12_ok 70 (by decide), rfl, rfl⟩
theorem wd_1354 : Cond.fieldLink "UtilityBoardModel" (181 : Nat) "UtilityBoardModel" "facts" "[I" ∈ lw_ok := lw_ok_mem (tb_5 _ (List.mem_of_getElem? (i := 56) (by decide +kernel))) rfl
theorem fl_X12_181 : FL RX12 181 12 71 := ⟨RX12, TX12, 95, "UtilityBoardModel", rfl, by decide, wd_1354, Or.inl rfl, in_X12⟩
theorem fq_X12_181 : FPF RX12 181 12 71 (.array .int) := ⟨RX12, TX12, 95, "UtilityBoardModel", tyX12, rfl, by decide, wd_1354, Or.inl rfl, in_X12, tyX12_ok, nmX12, tyX12_ok 71 (by decide), rfl, rfl⟩
theorem wd_1357 : Cond.fieldLink "UtilityBoardModel" (185 : Nat) "UtilityBoardModel" "madeMarked" "[I" ∈ lw_ok := lw_ok_mem (tb_5 _ (List.mem_of_getElem? (i := 59) (by decide +kernel))) rfl
theorem fl_X12_185 : FL RX12 185 12 74 := ⟨RX12, TX12, 95, "UtilityBoardModel", rfl, by decide, wd_1357, Or.inl rfl, in_X12⟩
theorem fq_X12_185 : FPF RX12 185 12 74 (.array .int) := ⟨RX12, TX12, 95, "UtilityBoardModel", tyX12, rfl, by decide, wd_1357, Or.inl rfl, in_X12, tyX12_ok, nmX12, tyX12_ok 74 (by decide), rfl, rfl⟩
theorem wd_1358 : Cond.fieldLink "UtilityBoardModel" (188 : Nat) "UtilityBoardModel" "boughtMarked" "[I" ∈ lw_ok := lw_ok_mem (tb_5 _ (List.mem_of_getElem? (i := 60) (by decide +kernel))) rfl
theorem fl_X12_188 : FL RX12 188 12 75 := ⟨RX12, TX12, 95, "UtilityBoardModel", rfl, by decide, wd_1358, Or.inl rfl, in_X12⟩
theorem fq_X12_188 : FPF RX12 188 12 75 (.array .int) := ⟨RX12, TX12, 95, "UtilityBoardModel", tyX12, rfl, by decide, wd_1358, Or.inl rfl, in_X12, tyX12_ok, nmX12, tyX12_ok 75 (by decide), rfl, rfl⟩
theorem wd_1360 : Cond.fieldLink "UtilityBoardModel" (191 : Nat) "UtilityBoardModel" "points" "[I" ∈ lw_ok := lw_ok_mem (tb_5 _ (List.mem_of_getElem? (i := 62) (by decide +kernel))) rfl
theorem fl_X12_191 : FL RX12 191 12 77 := ⟨RX12, TX12, 95, "UtilityBoardModel", rfl, by decide, wd_1360, Or.inl rfl, in_X12⟩
theorem fq_X12_191 : FPF RX12 191 12 77 (.array .int) := ⟨RX12, TX12, 95, "UtilityBoardModel", tyX12, rfl, by decide, wd_1360, Or.inl rfl, in_X12, tyX12_ok, nmX12, tyX12_ok 77 (by decide), rfl, rfl⟩
theorem wd_1361 : Cond.fieldLink "UtilityBoardModel" (194 : Nat) "UtilityBoardModel" "purse" "[I" ∈ lw_ok := lw_ok_mem (tb_5 _ (List.mem_of_getElem? (i := 63) (by decide +kernel))) rfl
theorem fl_X12_194 : FL RX12 194 12 78 := ⟨RX12, TX12, 95, "UtilityBoardModel", rfl, by decide, wd_1361, Or.inl rfl, in_X12⟩
theorem fq_X12_194 : FPF RX12 194 12 78 (.array .int) := ⟨RX12, TX12, 95, "UtilityBoardModel", tyX12, rfl, by decide, wd_1361, Or.inl rfl, in_X12, tyX12_ok, nmX12, tyX12_ok 78 (by decide), rfl, rfl⟩
theorem wd_1363 : Cond.fieldLink "UtilityBoardModel" (197 : Nat) "UtilityBoardModel" "docketOf" "[I" ∈ lw_ok := lw_ok_mem (tb_5 _ (List.mem_of_getElem? (i := 65) (by decide +kernel))) rfl
theorem fl_X12_197 : FL RX12 197 12 80 := ⟨RX12, TX12, 95, "UtilityBoardModel", rfl, by decide, wd_1363, Or.inl rfl, in_X12⟩
theorem fq_X12_197 : FPF RX12 197 12 80 (.array .int) := ⟨RX12, TX12, 95, "UtilityBoardModel", tyX12, rfl, by decide, wd_1363, Or.inl rfl, in_X12, tyX12_ok, nmX12, tyX12_ok 80 (by decide), rfl, rfl⟩
theorem wd_1364 : Cond.fieldLink "UtilityBoardModel" (200 : Nat) "UtilityBoardModel" "docketThing" "[I" ∈ lw_ok := lw_ok_mem (tb_5 _ (List.mem_of_getElem? (i := 66) (by decide +kernel))) rfl
theorem fl_X12_200 : FL RX12 200 12 81 := ⟨RX12, TX12, 95, "UtilityBoardModel", rfl, by decide, wd_1364, Or.inl rfl, in_X12⟩
theorem fq_X12_200 : FPF RX12 200 12 81 (.array .int) := ⟨RX12, TX12, 95, "UtilityBoardModel", tyX12, rfl, by decide, wd_1364, Or.inl rfl, in_X12, tyX12_ok, nmX12, tyX12_ok 81 (by decide), rfl, rfl⟩
theorem wd_1365 : Cond.fieldLink "UtilityBoardModel" (203 : Nat) "UtilityBoardModel" "docketSince" "[I" ∈ lw_ok := lw_ok_mem (tb_5 _ (List.mem_of_getElem? (i := 67) (by decide +kernel))) rfl
theorem fl_X12_203 : FL RX12 203 12 82 := ⟨RX12, TX12, 95, "UtilityBoardModel", rfl, by decide, wd_1365, Or.inl rfl, in_X12⟩
theorem fq_X12_203 : FPF RX12 203 12 82 (.array .int) := ⟨RX12, TX12, 95, "UtilityBoardModel", tyX12, rfl, by decide, wd_1365, Or.inl rfl, in_X12, tyX12_ok, nmX12, tyX12_ok 82 (by decide), rfl, rfl⟩
theorem wd_1366 : Cond.fieldLink "UtilityBoardModel" (206 : Nat) "UtilityBoardModel" "docketWeight" "[I" ∈ lw_ok := lw_ok_mem (tb_5 _ (List.mem_of_getElem? (i := 68) (by decide +kernel))) rfl
theorem fl_X12_206 : FL RX12 206 12 83 := ⟨RX12, TX12, 95, "UtilityBoardModel", rfl, by decide, wd_1366, Or.inl rfl, in_X12⟩
theorem fq_X12_206 : FPF RX12 206 12 83 (.array .int) := ⟨RX12, TX12, 95, "UtilityBoardModel", tyX12, rfl, by decide, wd_1366, Or.inl rfl, in_X12, tyX12_ok, nmX12, tyX12_ok 83 (by decide), rfl, rfl⟩
theorem wd_1367 : Cond.fieldLink "UtilityBoardModel" (209 : Nat) "UtilityBoardModel" "isOpen" "[Z" ∈ lw_ok := lw_ok_mem (tb_5 _ (List.mem_of_getElem? (i := 69) (by decide +kernel))) rfl
theorem fl_X12_209 : FL RX12 209 12 84 := ⟨RX12, TX12, 95, "UtilityBoardModel", rfl, by decide, wd_1367, Or.inl rfl, in_X12⟩
theorem fq_X12_209 : FPF RX12 209 12 84 (.array .boolean) := ⟨RX12, TX12, 95, "UtilityBoardModel", tyX12, rfl, by decide, wd_1367, Or.inl rfl, in_X12, tyX12_ok, nmX12, tyX12_ok 84 (by decide), rfl, rfl⟩
theorem wd_1370 : Cond.fieldLink "UtilityBoardModel" (212 : Nat) "UtilityBoardModel" "turnsAWeek" "I" ∈ lw_ok := lw_ok_mem (tb_5 _ (List.mem_of_getElem? (i := 72) (by decide +kernel))) rfl
theorem fl_X12_212 : FL RX12 212 12 87 := ⟨RX12, TX12, 95, "UtilityBoardModel", rfl, by decide, wd_1370, Or.inl rfl, in_X12⟩
theorem fp_X12_212 : FP RX12 212 12 87 .int := ⟨RX12, TX12, 95, "UtilityBoardModel", tyX12, rfl, by decide, wd_1370, Or.inl rfl, in_X12, tyX12_ok, nmX12, tyX12_ok 87 (by decide), rfl⟩
theorem wd_1371 : Cond.fieldLink "UtilityBoardModel" (215 : Nat) "UtilityBoardModel" "seenThing" "[I" ∈ lw_ok := lw_ok_mem (tb_5 _ (List.mem_of_getElem? (i := 73) (by decide +kernel))) rfl
theorem fl_X12_215 : FL RX12 215 12 88 := ⟨RX12, TX12, 95, "UtilityBoardModel", rfl, by decide, wd_1371, Or.inl rfl, in_X12⟩
theorem fq_X12_215 : FPF RX12 215 12 88 (.array .int) := ⟨RX12, TX12, 95, "UtilityBoardModel", tyX12, rfl, by decide, wd_1371, Or.inl rfl, in_X12, tyX12_ok, nmX12, tyX12_ok 88 (by decide), rfl, rfl⟩
theorem wd_1372 : Cond.fieldLink "UtilityBoardModel" (218 : Nat) "UtilityBoardModel" "seenWeek" "[I" ∈ lw_ok := lw_ok_mem (tb_5 _ (List.mem_of_getElem? (i := 74) (by decide +kernel))) rfl
theorem fl_X12_218 : FL RX12 218 12 89 := ⟨RX12, TX12, 95, "UtilityBoardModel", rfl, by decide, wd_1372, Or.inl rfl, in_X12⟩
theorem fq_X12_218 : FPF RX12 218 12 89 (.array .int) := ⟨RX12, TX12, 95, "UtilityBoardModel", tyX12, rfl, by decide, wd_1372, Or.inl rfl, in_X12, tyX12_ok, nmX12, tyX12_ok 89 (by decide), rfl, rfl⟩
theorem wd_1373 : Cond.fieldLink "UtilityBoardModel" (221 : Nat) "UtilityBoardModel" "seenCount" "[I" ∈ lw_ok := lw_ok_mem (tb_5 _ (List.mem_of_getElem? (i := 75) (by decide +kernel))) rfl
theorem fl_X12_221 : FL RX12 221 12 90 := ⟨RX12, TX12, 95, "UtilityBoardModel", rfl, by decide, wd_1373, Or.inl rfl, in_X12⟩
theorem fq_X12_221 : FPF RX12 221 12 90 (.array .int) := ⟨RX12, TX12, 95, "UtilityBoardModel", tyX12, rfl, by decide, wd_1373, Or.inl rfl, in_X12, tyX12_ok, nmX12, tyX12_ok 90 (by decide), rfl, rfl⟩
theorem wd_1374 : Cond.fieldLink "UtilityBoardModel" (224 : Nat) "UtilityBoardModel" "rubbedCloth" "[I" ∈ lw_ok := lw_ok_mem (tb_5 _ (List.mem_of_getElem? (i := 76) (by decide +kernel))) rfl
theorem fl_X12_224 : FL RX12 224 12 91 := ⟨RX12, TX12, 95, "UtilityBoardModel", rfl, by decide, wd_1374, Or.inl rfl, in_X12⟩
theorem fq_X12_224 : FPF RX12 224 12 91 (.array .int) := ⟨RX12, TX12, 95, "UtilityBoardModel", tyX12, rfl, by decide, wd_1374, Or.inl rfl, in_X12, tyX12_ok, nmX12, tyX12_ok 91 (by decide), rfl, rfl⟩
theorem wd_1375 : Cond.fieldLink "UtilityBoardModel" (227 : Nat) "UtilityBoardModel" "rubbedTurns" "[I" ∈ lw_ok := lw_ok_mem (tb_5 _ (List.mem_of_getElem? (i := 77) (by decide +kernel))) rfl
theorem fl_X12_227 : FL RX12 227 12 92 := ⟨RX12, TX12, 95, "UtilityBoardModel", rfl, by decide, wd_1375, Or.inl rfl, in_X12⟩
theorem fq_X12_227 : FPF RX12 227 12 92 (.array .int) := ⟨RX12, TX12, 95, "UtilityBoardModel", tyX12, rfl, by decide, wd_1375, Or.inl rfl, in_X12, tyX12_ok, nmX12, tyX12_ok 92 (by decide), rfl, rfl⟩
theorem wd_1376 : Cond.fieldLink "UtilityBoardModel" (230 : Nat) "UtilityBoardModel" "rubbedTold" "[I" ∈ lw_ok := lw_ok_mem (tb_5 _ (List.mem_of_getElem? (i := 78) (by decide +kernel))) rfl
theorem fl_X12_230 : FL RX12 230 12 93 := ⟨RX12, TX12, 95, "UtilityBoardModel", rfl, by decide, wd_1376, Or.inl rfl, in_X12⟩
theorem fq_X12_230 : FPF RX12 230 12 93 (.array .int) := ⟨RX12, TX12, 95, "UtilityBoardModel", tyX12, rfl, by decide, wd_1376, Or.inl rfl, in_X12, tyX12_ok, nmX12, tyX12_ok 93 (by decide), rfl, rfl⟩
theorem wd_1377 : Cond.fieldLink "UtilityBoardModel" (233 : Nat) "UtilityBoardModel" "isTorn" "[Z" ∈ lw_ok := lw_ok_mem (tb_5 _ (List.mem_of_getElem? (i := 79) (by decide +kernel))) rfl
theorem fl_X12_233 : FL RX12 233 12 94 := ⟨RX12, TX12, 95, "UtilityBoardModel", rfl, by decide, wd_1377, Or.inl rfl, in_X12⟩
theorem fq_X12_233 : FPF RX12 233 12 94 (.array .boolean) := ⟨RX12, TX12, 95, "UtilityBoardModel", tyX12, rfl, by decide, wd_1377, Or.inl rfl, in_X12, tyX12_ok, nmX12, tyX12_ok 94 (by decide), rfl, rfl⟩
theorem wd_1284 : Cond.fieldLink "UtilityBoardModel" (236 : Nat) "UtilityBoardModel" "cloths" "I" ∈ lw_ok := lw_ok_mem (tb_4 _ (List.mem_of_getElem? (i := 226) (by decide +kernel))) rfl
theorem fl_X12_236 : FL RX12 236 12 1 := ⟨RX12, TX12, 95, "UtilityBoardModel", rfl, by decide, wd_1284, Or.inl rfl, in_X12⟩
theorem fp_X12_236 : FP RX12 236 12 1 .int := ⟨RX12, TX12, 95, "UtilityBoardModel", tyX12, rfl, by decide, wd_1284, Or.inl rfl, in_X12, tyX12_ok, nmX12, tyX12_ok 1 (by decide), rfl⟩
theorem wd_1285 : Cond.fieldLink "UtilityBoardModel" (239 : Nat) "UtilityBoardModel" "drawings" "I" ∈ lw_ok := lw_ok_mem (tb_4 _ (List.mem_of_getElem? (i := 227) (by decide +kernel))) rfl
theorem fl_X12_239 : FL RX12 239 12 2 := ⟨RX12, TX12, 95, "UtilityBoardModel", rfl, by decide, wd_1285, Or.inl rfl, in_X12⟩
theorem fp_X12_239 : FP RX12 239 12 2 .int := ⟨RX12, TX12, 95, "UtilityBoardModel", tyX12, rfl, by decide, wd_1285, Or.inl rfl, in_X12, tyX12_ok, nmX12, tyX12_ok 2 (by decide), rfl⟩
theorem wd_1286 : Cond.fieldLink "UtilityBoardModel" (242 : Nat) "UtilityBoardModel" "things" "I" ∈ lw_ok := lw_ok_mem (tb_4 _ (List.mem_of_getElem? (i := 228) (by decide +kernel))) rfl
theorem fl_X12_242 : FL RX12 242 12 3 := ⟨RX12, TX12, 95, "UtilityBoardModel", rfl, by decide, wd_1286, Or.inl rfl, in_X12⟩
theorem fp_X12_242 : FP RX12 242 12 3 .int := ⟨RX12, TX12, 95, "UtilityBoardModel", tyX12, rfl, by decide, wd_1286, Or.inl rfl, in_X12, tyX12_ok, nmX12, tyX12_ok 3 (by decide), rfl⟩
theorem wd_1324 : Cond.fieldLink "UtilityBoardModel" (274 : Nat) "UtilityBoardModel" "taped" "I" ∈ lw_ok := lw_ok_mem (tb_5 _ (List.mem_of_getElem? (i := 26) (by decide +kernel))) rfl
theorem fl_X12_274 : FL RX12 274 12 41 := ⟨RX12, TX12, 95, "UtilityBoardModel", rfl, by decide, wd_1324, Or.inl rfl, in_X12⟩
theorem fp_X12_274 : FP RX12 274 12 41 .int := ⟨RX12, TX12, 95, "UtilityBoardModel", tyX12, rfl, by decide, wd_1324, Or.inl rfl, in_X12, tyX12_ok, nmX12, tyX12_ok 41 (by decide), rfl⟩
theorem wd_1314 : Cond.fieldLink "UtilityBoardModel" (291 : Nat) "UtilityBoardModel" "makers" "I" ∈ lw_ok := lw_ok_mem (tb_5 _ (List.mem_of_getElem? (i := 16) (by decide +kernel))) rfl
theorem fl_X12_291 : FL RX12 291 12 31 := ⟨RX12, TX12, 95, "UtilityBoardModel", rfl, by decide, wd_1314, Or.inl rfl, in_X12⟩
theorem fp_X12_291 : FP RX12 291 12 31 .int := ⟨RX12, TX12, 95, "UtilityBoardModel", tyX12, rfl, by decide, wd_1314, Or.inl rfl, in_X12, tyX12_ok, nmX12, tyX12_ok 31 (by decide), rfl⟩
theorem wd_1325 : Cond.fieldLink "UtilityBoardModel" (302 : Nat) "UtilityBoardModel" "place0" "I" ∈ lw_ok := lw_ok_mem (tb_5 _ (List.mem_of_getElem? (i := 27) (by decide +kernel))) rfl
theorem fl_X12_302 : FL RX12 302 12 42 := ⟨RX12, TX12, 95, "UtilityBoardModel", rfl, by decide, wd_1325, Or.inl rfl, in_X12⟩
theorem fp_X12_302 : FP RX12 302 12 42 .int := ⟨RX12, TX12, 95, "UtilityBoardModel", tyX12, rfl, by decide, wd_1325, Or.inl rfl, in_X12, tyX12_ok, nmX12, tyX12_ok 42 (by decide), rfl⟩
theorem wd_1326 : Cond.fieldLink "UtilityBoardModel" (305 : Nat) "UtilityBoardModel" "length0" "I" ∈ lw_ok := lw_ok_mem (tb_5 _ (List.mem_of_getElem? (i := 28) (by decide +kernel))) rfl
theorem fl_X12_305 : FL RX12 305 12 43 := ⟨RX12, TX12, 95, "UtilityBoardModel", rfl, by decide, wd_1326, Or.inl rfl, in_X12⟩
theorem fp_X12_305 : FP RX12 305 12 43 .int := ⟨RX12, TX12, 95, "UtilityBoardModel", tyX12, rfl, by decide, wd_1326, Or.inl rfl, in_X12, tyX12_ok, nmX12, tyX12_ok 43 (by decide), rfl⟩
theorem wd_1327 : Cond.fieldLink "UtilityBoardModel" (312 : Nat) "UtilityBoardModel" "fault" "I" ∈ lw_ok := lw_ok_mem (tb_5 _ (List.mem_of_getElem? (i := 29) (by decide +kernel))) rfl
theorem fl_X12_312 : FL RX12 312 12 44 := ⟨RX12, TX12, 95, "UtilityBoardModel", rfl, by decide, wd_1327, Or.inl rfl, in_X12⟩
theorem fp_X12_312 : FP RX12 312 12 44 .int := ⟨RX12, TX12, 95, "UtilityBoardModel", tyX12, rfl, by decide, wd_1327, Or.inl rfl, in_X12, tyX12_ok, nmX12, tyX12_ok 44 (by decide), rfl⟩
theorem wd_1328 : Cond.fieldLink "UtilityBoardModel" (318 : Nat) "UtilityBoardModel" "number0" "I" ∈ lw_ok := lw_ok_mem (tb_5 _ (List.mem_of_getElem? (i := 30) (by decide +kernel))) rfl
theorem fl_X12_318 : FL RX12 318 12 45 := ⟨RX12, TX12, 95, "UtilityBoardModel", rfl, by decide, wd_1328, Or.inl rfl, in_X12⟩
theorem fp_X12_318 : FP RX12 318 12 45 .int := ⟨RX12, TX12, 95, "UtilityBoardModel", tyX12, rfl, by decide, wd_1328, Or.inl rfl, in_X12, tyX12_ok, nmX12, tyX12_ok 45 (by decide), rfl⟩
theorem wd_1330 : Cond.fieldLink "UtilityBoardModel" (325 : Nat) "UtilityBoardModel" "codeMany" "I" ∈ lw_ok := lw_ok_mem (tb_5 _ (List.mem_of_getElem? (i := 32) (by decide +kernel))) rfl
theorem fl_X12_325 : FL RX12 325 12 47 := ⟨RX12, TX12, 95, "UtilityBoardModel", rfl, by decide, wd_1330, Or.inl rfl, in_X12⟩
theorem fp_X12_325 : FP RX12 325 12 47 .int := ⟨RX12, TX12, 95, "UtilityBoardModel", tyX12, rfl, by decide, wd_1330, Or.inl rfl, in_X12, tyX12_ok, nmX12, tyX12_ok 47 (by decide), rfl⟩
theorem wd_1329 : Cond.fieldLink "UtilityBoardModel" (329 : Nat) "UtilityBoardModel" "open" "I" ∈ lw_ok := lw_ok_mem (tb_5 _ (List.mem_of_getElem? (i := 31) (by decide +kernel))) rfl
theorem fl_X12_329 : FL RX12 329 12 46 := ⟨RX12, TX12, 95, "UtilityBoardModel", rfl, by decide, wd_1329, Or.inl rfl, in_X12⟩
theorem fp_X12_329 : FP RX12 329 12 46 .int := ⟨RX12, TX12, 95, "UtilityBoardModel", tyX12, rfl, by decide, wd_1329, Or.inl rfl, in_X12, tyX12_ok, nmX12, tyX12_ok 46 (by decide), rfl⟩
theorem wd_1331 : Cond.fieldLink "UtilityBoardModel" (332 : Nat) "UtilityBoardModel" "waiting" "I" ∈ lw_ok := lw_ok_mem (tb_5 _ (List.mem_of_getElem? (i := 33) (by decide +kernel))) rfl
theorem fl_X12_332 : FL RX12 332 12 48 := ⟨RX12, TX12, 95, "UtilityBoardModel", rfl, by decide, wd_1331, Or.inl rfl, in_X12⟩
theorem fp_X12_332 : FP RX12 332 12 48 .int := ⟨RX12, TX12, 95, "UtilityBoardModel", tyX12, rfl, by decide, wd_1331, Or.inl rfl, in_X12, tyX12_ok, nmX12, tyX12_ok 48 (by decide), rfl⟩
theorem wd_1332 : Cond.fieldLink "UtilityBoardModel" (382 : Nat) "UtilityBoardModel" "saidClauses" "I" ∈ lw_ok := lw_ok_mem (tb_5 _ (List.mem_of_getElem? (i := 34) (by decide +kernel))) rfl
theorem fl_X12_382 : FL RX12 382 12 49 := ⟨RX12, TX12, 95, "UtilityBoardModel", rfl, by decide, wd_1332, Or.inl rfl, in_X12⟩
theorem fp_X12_382 : FP RX12 382 12 49 .int := ⟨RX12, TX12, 95, "UtilityBoardModel", tyX12, rfl, by decide, wd_1332, Or.inl rfl, in_X12, tyX12_ok, nmX12, tyX12_ok 49 (by decide), rfl⟩
theorem wd_1340 : Cond.fieldLink "UtilityBoardModel" (394 : Nat) "UtilityBoardModel" "orders" "I" ∈ lw_ok := lw_ok_mem (tb_5 _ (List.mem_of_getElem? (i := 42) (by decide +kernel))) rfl
theorem fl_X12_394 : FL RX12 394 12 57 := ⟨RX12, TX12, 95, "UtilityBoardModel", rfl, by decide, wd_1340, Or.inl rfl, in_X12⟩
theorem fp_X12_394 : FP RX12 394 12 57 .int := ⟨RX12, TX12, 95, "UtilityBoardModel", tyX12, rfl, by decide, wd_1340, Or.inl rfl, in_X12, tyX12_ok, nmX12, tyX12_ok 57 (by decide), rfl⟩
theorem wd_1283 : Cond.fieldLink "UtilityBoardModel" (400 : Nat) "UtilityBoardModel" "now" "I" ∈ lw_ok := lw_ok_mem (tb_4 _ (List.mem_of_getElem? (i := 225) (by decide +kernel))) rfl
theorem fl_X12_400 : FL RX12 400 12 0 := ⟨RX12, TX12, 95, "UtilityBoardModel", rfl, by decide, wd_1283, Or.inl rfl, in_X12⟩
theorem fp_X12_400 : FP RX12 400 12 0 .int := ⟨RX12, TX12, 95, "UtilityBoardModel", tyX12, rfl, by decide, wd_1283, Or.inl rfl, in_X12, tyX12_ok, nmX12, tyX12_ok 0 (by decide), rfl⟩
theorem wd_1355 : Cond.fieldLink "UtilityBoardModel" (424 : Nat) "UtilityBoardModel" "whyOrder" "I" ∈ lw_ok := lw_ok_mem (tb_5 _ (List.mem_of_getElem? (i := 57) (by decide +kernel))) rfl
theorem fl_X12_424 : FL RX12 424 12 72 := ⟨RX12, TX12, 95, "UtilityBoardModel", rfl, by decide, wd_1355, Or.inl rfl, in_X12⟩
theorem fp_X12_424 : FP RX12 424 12 72 .int := ⟨RX12, TX12, 95, "UtilityBoardModel", tyX12, rfl, by decide, wd_1355, Or.inl rfl, in_X12, tyX12_ok, nmX12, tyX12_ok 72 (by decide), rfl⟩
theorem wd_1356 : Cond.fieldLink "UtilityBoardModel" (427 : Nat) "UtilityBoardModel" "whyClause" "I" ∈ lw_ok := lw_ok_mem (tb_5 _ (List.mem_of_getElem? (i := 58) (by decide +kernel))) rfl
theorem fl_X12_427 : FL RX12 427 12 73 := ⟨RX12, TX12, 95, "UtilityBoardModel", rfl, by decide, wd_1356, Or.inl rfl, in_X12⟩
theorem fp_X12_427 : FP RX12 427 12 73 .int := ⟨RX12, TX12, 95, "UtilityBoardModel", tyX12, rfl, by decide, wd_1356, Or.inl rfl, in_X12, tyX12_ok, nmX12, tyX12_ok 73 (by decide), rfl⟩
theorem wd_1359 : Cond.fieldLink "UtilityBoardModel" (440 : Nat) "UtilityBoardModel" "persons" "I" ∈ lw_ok := lw_ok_mem (tb_5 _ (List.mem_of_getElem? (i := 61) (by decide +kernel))) rfl
theorem fl_X12_440 : FL RX12 440 12 76 := ⟨RX12, TX12, 95, "UtilityBoardModel", rfl, by decide, wd_1359, Or.inl rfl, in_X12⟩
theorem fp_X12_440 : FP RX12 440 12 76 .int := ⟨RX12, TX12, 95, "UtilityBoardModel", tyX12, rfl, by decide, wd_1359, Or.inl rfl, in_X12, tyX12_ok, nmX12, tyX12_ok 76 (by decide), rfl⟩
theorem wd_1362 : Cond.fieldLink "UtilityBoardModel" (449 : Nat) "UtilityBoardModel" "dockets" "I" ∈ lw_ok := lw_ok_mem (tb_5 _ (List.mem_of_getElem? (i := 64) (by decide +kernel))) rfl
theorem fl_X12_449 : FL RX12 449 12 79 := ⟨RX12, TX12, 95, "UtilityBoardModel", rfl, by decide, wd_1362, Or.inl rfl, in_X12⟩
theorem fp_X12_449 : FP RX12 449 12 79 .int := ⟨RX12, TX12, 95, "UtilityBoardModel", tyX12, rfl, by decide, wd_1362, Or.inl rfl, in_X12, tyX12_ok, nmX12, tyX12_ok 79 (by decide), rfl⟩
theorem wd_1368 : Cond.fieldLink "UtilityBoardModel" (458 : Nat) "UtilityBoardModel" "seenMany" "I" ∈ lw_ok := lw_ok_mem (tb_5 _ (List.mem_of_getElem? (i := 70) (by decide +kernel))) rfl
theorem fl_X12_458 : FL RX12 458 12 85 := ⟨RX12, TX12, 95, "UtilityBoardModel", rfl, by decide, wd_1368, Or.inl rfl, in_X12⟩
theorem fp_X12_458 : FP RX12 458 12 85 .int := ⟨RX12, TX12, 95, "UtilityBoardModel", tyX12, rfl, by decide, wd_1368, Or.inl rfl, in_X12, tyX12_ok, nmX12, tyX12_ok 85 (by decide), rfl⟩
theorem wd_1369 : Cond.fieldLink "UtilityBoardModel" (461 : Nat) "UtilityBoardModel" "rubbedMany" "I" ∈ lw_ok := lw_ok_mem (tb_5 _ (List.mem_of_getElem? (i := 71) (by decide +kernel))) rfl
theorem fl_X12_461 : FL RX12 461 12 86 := ⟨RX12, TX12, 95, "UtilityBoardModel", rfl, by decide, wd_1369, Or.inl rfl, in_X12⟩
theorem fp_X12_461 : FP RX12 461 12 86 .int := ⟨RX12, TX12, 95, "UtilityBoardModel", tyX12, rfl, by decide, wd_1369, Or.inl rfl, in_X12, tyX12_ok, nmX12, tyX12_ok 86 (by decide), rfl⟩
theorem wd_148 : Cond.fieldLink "java/util/ArrayList" (9 : Nat) "java/util/ArrayList" "elementData" "[Ljava/lang/Object;" ∈ lw_ok := lw_ok_mem (tb_0 _ (List.mem_of_getElem? (i := 50) (by decide +kernel))) rfl
theorem fl_Jx4a65c_9 : FL RJx4a65c 9 13 1 := ⟨RJx4a65c, TJx4a65c, 3, "java/util/ArrayList", rfl, by decide, wd_148, Or.inl rfl, in_Jx4a65c⟩
theorem fp_Jx4a65c_9 : FP RJx4a65c 9 13 1 (.array (.object "java/lang/Object")) := ⟨RJx4a65c, TJx4a65c, 3, "java/util/ArrayList", tyJx4a65c, rfl, by decide, wd_148, Or.inl rfl, in_Jx4a65c, tyJx4a65c_ok, nmJx4a65c, tyJx4a65c_ok 1 (by decide), rfl⟩
theorem wd_149 : Cond.fieldLink "java/util/ArrayList" (48 : Nat) "java/util/ArrayList" "size" "I" ∈ lw_ok := lw_ok_mem (tb_0 _ (List.mem_of_getElem? (i := 51) (by decide +kernel))) rfl
theorem fl_Jx4a65c_48 : FL RJx4a65c 48 13 2 := ⟨RJx4a65c, TJx4a65c, 3, "java/util/ArrayList", rfl, by decide, wd_149, Or.inl rfl, in_Jx4a65c⟩
theorem fp_Jx4a65c_48 : FP RJx4a65c 48 13 2 .int := ⟨RJx4a65c, TJx4a65c, 3, "java/util/ArrayList", tyJx4a65c, rfl, by decide, wd_149, Or.inl rfl, in_Jx4a65c, tyJx4a65c_ok, nmJx4a65c, tyJx4a65c_ok 2 (by decide), rfl⟩
theorem wd_152 : Cond.sameField "java/util/ArrayList" "java/util/AbstractList" "modCount" "I" ∈ lw_ok := lw_ok_mem (tb_0 _ (List.mem_of_getElem? (i := 54) (by decide +kernel))) rfl
theorem wd_151 : Cond.fieldLink "java/util/ArrayList" (63 : Nat) "java/util/ArrayList" "modCount" "I" ∈ lw_ok := lw_ok_mem (tb_0 _ (List.mem_of_getElem? (i := 53) (by decide +kernel))) rfl
theorem fl_Jx4a65c_63 : FL RJx4a65c 63 13 0 := ⟨RJx4a65c, TJx4a65c, 3, "java/util/ArrayList", rfl, by decide, wd_151, Or.inr (wd_152), in_Jx4a65c⟩
theorem fp_Jx4a65c_63 : FP RJx4a65c 63 13 0 .int := ⟨RJx4a65c, TJx4a65c, 3, "java/util/ArrayList", tyJx4a65c, rfl, by decide, wd_151, Or.inr (wd_152), in_Jx4a65c, tyJx4a65c_ok, nmJx4a65c, tyJx4a65c_ok 0 (by decide), rfl⟩
theorem wd_401 : Cond.constant "UtilityBoard" (99 : Nat) (1000000 : Int32) ∈ lw_ok := lw_ok_mem (tb_1 _ (List.mem_of_getElem? (i := 63) (by decide +kernel))) rfl
theorem ck_X11_99 : Cond.constant RX11 99 (1000000) ∈ lw_ok := wd_401
theorem wd_1118 : Cond.constant "UtilityBoard" (283 : Nat) (100000 : Int32) ∈ lw_ok := lw_ok_mem (tb_4 _ (List.mem_of_getElem? (i := 60) (by decide +kernel))) rfl
theorem ck_X11_283 : Cond.constant RX11 283 (100000) ∈ lw_ok := wd_1118
theorem wd_1238 : Cond.constant "UtilityBoard" (353 : Nat) (-1000000000 : Int32) ∈ lw_ok := lw_ok_mem (tb_4 _ (List.mem_of_getElem? (i := 180) (by decide +kernel))) rfl
theorem ck_X11_353 : Cond.constant RX11 353 (-1000000000) ∈ lw_ok := wd_1238
theorem wd_945 : Cond.constant "UtilityBoard$Reader" (81 : Nat) (99999 : Int32) ∈ lw_ok := lw_ok_mem (tb_3 _ (List.mem_of_getElem? (i := 127) (by decide +kernel))) rfl
theorem ck_X9_81 : Cond.constant RX9 81 (99999) ∈ lw_ok := wd_945
theorem wd_1282 : Cond.constant "UtilityBoardModel" (184 : Nat) (180000 : Int32) ∈ lw_ok := lw_ok_mem (tb_4 _ (List.mem_of_getElem? (i := 224) (by decide +kernel))) rfl
theorem ck_X12_184 : Cond.constant RX12 184 (180000) ∈ lw_ok := wd_1282
theorem wd_1608 : Cond.constant "UtilityBoardModel" (257 : Nat) (100000 : Int32) ∈ lw_ok := lw_ok_mem (tb_6 _ (List.mem_of_getElem? (i := 70) (by decide +kernel))) rfl
theorem ck_X12_257 : Cond.constant RX12 257 (100000) ∈ lw_ok := wd_1608
theorem wd_1672 : Cond.constant "UtilityBoardModel" (297 : Nat) (1000000 : Int32) ∈ lw_ok := lw_ok_mem (tb_6 _ (List.mem_of_getElem? (i := 134) (by decide +kernel))) rfl
theorem ck_X12_297 : Cond.constant RX12 297 (1000000) ∈ lw_ok := wd_1672
theorem wd_1724 : Cond.constant "UtilityBoardModel" (328 : Nat) (1048576 : Int32) ∈ lw_ok := lw_ok_mem (tb_6 _ (List.mem_of_getElem? (i := 186) (by decide +kernel))) rfl
theorem ck_X12_328 : Cond.constant RX12 328 (1048576) ∈ lw_ok := wd_1724
theorem wd_1703 : Cond.constant "UtilityBoardModel" (344 : Nat) (99999 : Int32) ∈ lw_ok := lw_ok_mem (tb_6 _ (List.mem_of_getElem? (i := 165) (by decide +kernel))) rfl
theorem ck_X12_344 : Cond.constant RX12 344 (99999) ∈ lw_ok := wd_1703
theorem wd_1916 : Cond.constant "UtilityBoardModel" (476 : Nat) (-1000000000 : Int32) ∈ lw_ok := lw_ok_mem (tb_7 _ (List.mem_of_getElem? (i := 138) (by decide +kernel))) rfl
theorem ck_X12_476 : Cond.constant RX12 476 (-1000000000) ∈ lw_ok := wd_1916
theorem wd_931 : Cond.constant "java/lang/Character" (76 : Nat) (56320 : Int32) ∈ lw_ok := lw_ok_mem (tb_3 _ (List.mem_of_getElem? (i := 113) (by decide +kernel))) rfl
theorem ck_J11_76 : Cond.constant RJ11 76 (56320) ∈ lw_ok := wd_931
theorem wd_927 : Cond.constant "java/lang/Character" (110 : Nat) (55232 : Int32) ∈ lw_ok := lw_ok_mem (tb_3 _ (List.mem_of_getElem? (i := 109) (by decide +kernel))) rfl
theorem ck_J11_110 : Cond.constant RJ11 110 (55232) ∈ lw_ok := wd_927
theorem wd_746 : Cond.constant "java/lang/Integer" (264 : Nat) (65536 : Int32) ∈ lw_ok := lw_ok_mem (tb_2 _ (List.mem_of_getElem? (i := 168) (by decide +kernel))) rfl
theorem ck_J6_264 : Cond.constant RJ6 264 (65536) ∈ lw_ok := wd_746
theorem wd_607 : Cond.constant "java/lang/Integer" (265 : Nat) (1431655765 : Int32) ∈ lw_ok := lw_ok_mem (tb_2 _ (List.mem_of_getElem? (i := 29) (by decide +kernel))) rfl
theorem ck_J6_265 : Cond.constant RJ6 265 (1431655765) ∈ lw_ok := wd_607
theorem wd_608 : Cond.constant "java/lang/Integer" (266 : Nat) (858993459 : Int32) ∈ lw_ok := lw_ok_mem (tb_2 _ (List.mem_of_getElem? (i := 30) (by decide +kernel))) rfl
theorem ck_J6_266 : Cond.constant RJ6 266 (858993459) ∈ lw_ok := wd_608
theorem wd_609 : Cond.constant "java/lang/Integer" (267 : Nat) (252645135 : Int32) ∈ lw_ok := lw_ok_mem (tb_2 _ (List.mem_of_getElem? (i := 31) (by decide +kernel))) rfl
theorem ck_J6_267 : Cond.constant RJ6 267 (252645135) ∈ lw_ok := wd_609
theorem wd_888 : Cond.constant "java/lang/StringUTF16" (227 : Nat) (65536 : Int32) ∈ lw_ok := lw_ok_mem (tb_3 _ (List.mem_of_getElem? (i := 70) (by decide +kernel))) rfl
theorem ck_J2_227 : Cond.constant RJ2 227 (65536) ∈ lw_ok := wd_888
theorem wd_458 : Cond.constant "jdk/internal/util/ArraysSupport" (200 : Nat) (2147483639 : Int32) ∈ lw_ok := lw_ok_mem (tb_1 _ (List.mem_of_getElem? (i := 120) (by decide +kernel))) rfl
theorem ck_J8_200 : Cond.constant RJ8 200 (2147483639) ∈ lw_ok := wd_458
theorem wd_138 : Cond.code ({ cls := "java/util/ArrayList", name := "<init>", desc := "()V" } : MethodName) prog_27_method_2_code (1 : Nat) none ∈ lw_ok := lw_ok_mem (tb_0 _ (List.mem_of_getElem? (i := 40) rfl)) rfl
theorem wc_Jx4a65c_init_da8c8 : Cond.code yJx4a65c_init_da8c8 cJx4a65c_init_da8c8 1 none ∈ lw_ok := wd_138
theorem wd_102 : Cond.initialized "java/util/ArrayList" ∈ lw_ok := lw_ok_mem (tb_0 _ (List.mem_of_getElem? (i := 4) (by decide +kernel))) rfl
theorem wi_Jx4a65c_init_da8c8 : Cond.initialized yJx4a65c_init_da8c8.cls ∈ lw_ok := wd_102
theorem wn_Jx4a65c_init_da8c8 : notMH yJx4a65c_init_da8c8 := ⟨by decide, by decide⟩
theorem wp_Jx4a65c_init_da8c8 : (parseMethodDescriptor yJx4a65c_init_da8c8.desc).map (fun d => d.parameters.length) = some 0 := by decide +kernel
theorem wd_137 : Cond.instanceMethod ({ cls := "java/util/ArrayList", name := "<init>", desc := "()V" } : MethodName) ∈ lw_ok := lw_ok_mem (tb_0 _ (List.mem_of_getElem? (i := 39) (by decide +kernel))) rfl
theorem wm_Jx4a65c_init_da8c8 : Cond.instanceMethod yJx4a65c_init_da8c8 ∈ lw_ok := wd_137
theorem wd_136 : Cond.methodLink "UtilityBoard" (18 : Nat) ({ cls := "java/util/ArrayList", name := "<init>", desc := "()V" } : MethodName) ∈ lw_ok := lw_ok_mem (tb_0 _ (List.mem_of_getElem? (i := 38) (by decide +kernel))) rfl
theorem ci_X11_18 : CIW RX11 18 yJx4a65c_init_da8c8 cJx4a65c_init_da8c8 1 0 := ⟨wd_136, wm_Jx4a65c_init_da8c8, wi_Jx4a65c_init_da8c8, wc_Jx4a65c_init_da8c8, rfl, wn_Jx4a65c_init_da8c8, wp_Jx4a65c_init_da8c8⟩
theorem wd_335 : Cond.code ({ cls := "UtilityBoard", name := "askNow", desc := "(CLUtilityBoard$Thing;LUtilityBoard$Maker;)I" } : MethodName) prog_1_method_55_code (4 : Nat) (Option.some .int) ∈ lw_ok := lw_ok_mem (tb_0 _ (List.mem_of_getElem? (i := 237) rfl)) rfl
theorem wc_X11_askNow : Cond.code yX11_askNow cX11_askNow 4 (some .int) ∈ lw_ok := wd_335
theorem wd_99 : Cond.initialized "UtilityBoard" ∈ lw_ok := lw_ok_mem (tb_0 _ (List.mem_of_getElem? (i := 1) (by decide +kernel))) rfl
theorem wi_X11_askNow : Cond.initialized yX11_askNow.cls ∈ lw_ok := wd_99
theorem wn_X11_askNow : notMH yX11_askNow := ⟨by decide, by decide⟩
theorem wp_X11_askNow : (parseMethodDescriptor yX11_askNow.desc).map (fun d => d.parameters.length) = some 3 := by decide +kernel
theorem wd_334 : Cond.instanceMethod ({ cls := "UtilityBoard", name := "askNow", desc := "(CLUtilityBoard$Thing;LUtilityBoard$Maker;)I" } : MethodName) ∈ lw_ok := lw_ok_mem (tb_0 _ (List.mem_of_getElem? (i := 236) (by decide +kernel))) rfl
theorem wm_X11_askNow : Cond.instanceMethod yX11_askNow ∈ lw_ok := wd_334
theorem wd_0 : Cond.selects "UtilityBoard" ⟨"UtilityBoard", "askNow", "(CLUtilityBoard$Thing;LUtilityBoard$Maker;)I"⟩ ⟨"UtilityBoard", "askNow", "(CLUtilityBoard$Thing;LUtilityBoard$Maker;)I"⟩ ∈ lw_ok := lw_ok_mem (List.mem_append_left _ (List.mem_of_getElem? (i := 0) (by decide +kernel))) rfl
theorem ws_X11_askNow : Cond.selects yX11_askNow.cls yX11_askNow yX11_askNow ∈ lw_ok := wd_0
theorem wd_332 : Cond.methodLink "UtilityBoard" (79 : Nat) ({ cls := "UtilityBoard", name := "askNow", desc := "(CLUtilityBoard$Thing;LUtilityBoard$Maker;)I" } : MethodName) ∈ lw_ok := lw_ok_mem (tb_0 _ (List.mem_of_getElem? (i := 234) (by decide +kernel))) rfl
theorem cv_X11_79 : CVW RX11 79 yX11_askNow.cls yX11_askNow cX11_askNow 4 (some .int) 3 := ⟨wd_332, wm_X11_askNow, ws_X11_askNow, wi_X11_askNow, wc_X11_askNow, wn_X11_askNow, wp_X11_askNow⟩
theorem wd_397 : Cond.code ({ cls := "java/lang/Math", name := "max", desc := "(II)I" } : MethodName) prog_20_method_65_code (2 : Nat) (Option.some .int) ∈ lw_ok := lw_ok_mem (tb_1 _ (List.mem_of_getElem? (i := 59) rfl)) rfl
theorem wc_J9_max_7cf53 : Cond.code yJ9_max_7cf53 cJ9_max_7cf53 2 (some .int) ∈ lw_ok := wd_397
theorem wd_109 : Cond.initialized "java/lang/Math" ∈ lw_ok := lw_ok_mem (tb_0 _ (List.mem_of_getElem? (i := 11) (by decide +kernel))) rfl
theorem wi_J9_max_7cf53 : Cond.initialized yJ9_max_7cf53.cls ∈ lw_ok := wd_109
theorem wn_J9_max_7cf53 : notMH yJ9_max_7cf53 := ⟨by decide, by decide⟩
theorem wp_J9_max_7cf53 : (parseMethodDescriptor yJ9_max_7cf53.desc).map (fun d => d.parameters.length) = some 2 := by decide +kernel
theorem wd_396 : Cond.static ({ cls := "java/lang/Math", name := "max", desc := "(II)I" } : MethodName) ∈ lw_ok := lw_ok_mem (tb_1 _ (List.mem_of_getElem? (i := 58) (by decide +kernel))) rfl
theorem wt_J9_max_7cf53 : Cond.static yJ9_max_7cf53 ∈ lw_ok := wd_396
theorem wd_395 : Cond.methodLink "UtilityBoard" (83 : Nat) ({ cls := "java/lang/Math", name := "max", desc := "(II)I" } : MethodName) ∈ lw_ok := lw_ok_mem (tb_1 _ (List.mem_of_getElem? (i := 57) (by decide +kernel))) rfl
theorem cs_X11_83 : CSW RX11 83 yJ9_max_7cf53 cJ9_max_7cf53 2 (some .int) 2 := ⟨wd_395, wt_J9_max_7cf53, wi_J9_max_7cf53, wc_J9_max_7cf53, wn_J9_max_7cf53, wp_J9_max_7cf53⟩
theorem wd_343 : Cond.code ({ cls := "java/util/ArrayList", name := "size", desc := "()I" } : MethodName) prog_27_method_8_code (1 : Nat) (Option.some .int) ∈ lw_ok := lw_ok_mem (tb_1 _ (List.mem_of_getElem? (i := 5) rfl)) rfl
theorem wc_Jx4a65c_size_8abf5 : Cond.code yJx4a65c_size_8abf5 cJx4a65c_size_8abf5 1 (some .int) ∈ lw_ok := wd_343
theorem wi_Jx4a65c_size_8abf5 : Cond.initialized yJx4a65c_size_8abf5.cls ∈ lw_ok := wd_102
theorem wn_Jx4a65c_size_8abf5 : notMH yJx4a65c_size_8abf5 := ⟨by decide, by decide⟩
theorem wp_Jx4a65c_size_8abf5 : (parseMethodDescriptor yJx4a65c_size_8abf5.desc).map (fun d => d.parameters.length) = some 0 := by decide +kernel
theorem wd_341 : Cond.instanceMethod ({ cls := "java/util/ArrayList", name := "size", desc := "()I" } : MethodName) ∈ lw_ok := lw_ok_mem (tb_1 _ (List.mem_of_getElem? (i := 3) (by decide +kernel))) rfl
theorem wm_Jx4a65c_size_8abf5 : Cond.instanceMethod yJx4a65c_size_8abf5 ∈ lw_ok := wd_341
theorem wd_342 : Cond.selects "java/util/ArrayList" ({ cls := "java/util/ArrayList", name := "size", desc := "()I" } : MethodName) ({ cls := "java/util/ArrayList", name := "size", desc := "()I" } : MethodName) ∈ lw_ok := lw_ok_mem (tb_1 _ (List.mem_of_getElem? (i := 4) (by decide +kernel))) rfl
theorem ws_Jx4a65c_size_8abf5 : Cond.selects yJx4a65c_size_8abf5.cls yJx4a65c_size_8abf5 yJx4a65c_size_8abf5 ∈ lw_ok := wd_342
theorem wd_398 : Cond.methodLink "UtilityBoard" (89 : Nat) ({ cls := "java/util/ArrayList", name := "size", desc := "()I" } : MethodName) ∈ lw_ok := lw_ok_mem (tb_1 _ (List.mem_of_getElem? (i := 60) (by decide +kernel))) rfl
theorem cv_X11_89 : CVW RX11 89 yJx4a65c_size_8abf5.cls yJx4a65c_size_8abf5 cJx4a65c_size_8abf5 1 (some .int) 0 := ⟨wd_398, wm_Jx4a65c_size_8abf5, ws_Jx4a65c_size_8abf5, wi_Jx4a65c_size_8abf5, wc_Jx4a65c_size_8abf5, wn_Jx4a65c_size_8abf5, wp_Jx4a65c_size_8abf5⟩
theorem wd_347 : Cond.code ({ cls := "java/util/ArrayList", name := "get", desc := "(I)Ljava/lang/Object;" } : MethodName) prog_27_method_20_code (2 : Nat) (Option.some (.object "java/lang/Object")) ∈ lw_ok := lw_ok_mem (tb_1 _ (List.mem_of_getElem? (i := 9) rfl)) rfl
theorem wc_Jx4a65c_get_915e3 : Cond.code yJx4a65c_get_915e3 cJx4a65c_get_915e3 2 (some (.object "java/lang/Object")) ∈ lw_ok := wd_347
theorem wi_Jx4a65c_get_915e3 : Cond.initialized yJx4a65c_get_915e3.cls ∈ lw_ok := wd_102
theorem wn_Jx4a65c_get_915e3 : notMH yJx4a65c_get_915e3 := ⟨by decide, by decide⟩
theorem wp_Jx4a65c_get_915e3 : (parseMethodDescriptor yJx4a65c_get_915e3.desc).map (fun d => d.parameters.length) = some 1 := by decide +kernel
theorem wd_345 : Cond.instanceMethod ({ cls := "java/util/ArrayList", name := "get", desc := "(I)Ljava/lang/Object;" } : MethodName) ∈ lw_ok := lw_ok_mem (tb_1 _ (List.mem_of_getElem? (i := 7) (by decide +kernel))) rfl
theorem wm_Jx4a65c_get_915e3 : Cond.instanceMethod yJx4a65c_get_915e3 ∈ lw_ok := wd_345
theorem wd_346 : Cond.selects "java/util/ArrayList" ({ cls := "java/util/ArrayList", name := "get", desc := "(I)Ljava/lang/Object;" } : MethodName) ({ cls := "java/util/ArrayList", name := "get", desc := "(I)Ljava/lang/Object;" } : MethodName) ∈ lw_ok := lw_ok_mem (tb_1 _ (List.mem_of_getElem? (i := 8) (by decide +kernel))) rfl
theorem ws_Jx4a65c_get_915e3 : Cond.selects yJx4a65c_get_915e3.cls yJx4a65c_get_915e3 yJx4a65c_get_915e3 ∈ lw_ok := wd_346
theorem wd_399 : Cond.methodLink "UtilityBoard" (93 : Nat) ({ cls := "java/util/ArrayList", name := "get", desc := "(I)Ljava/lang/Object;" } : MethodName) ∈ lw_ok := lw_ok_mem (tb_1 _ (List.mem_of_getElem? (i := 61) (by decide +kernel))) rfl
theorem cv_X11_93 : CVW RX11 93 yJx4a65c_get_915e3.cls yJx4a65c_get_915e3 cJx4a65c_get_915e3 2 (some (.object "java/lang/Object")) 1 := ⟨wd_399, wm_Jx4a65c_get_915e3, ws_Jx4a65c_get_915e3, wi_Jx4a65c_get_915e3, wc_Jx4a65c_get_915e3, wn_Jx4a65c_get_915e3, wp_Jx4a65c_get_915e3⟩
theorem wd_404 : Cond.code ({ cls := "java/lang/Math", name := "min", desc := "(II)I" } : MethodName) prog_20_method_69_code (2 : Nat) (Option.some .int) ∈ lw_ok := lw_ok_mem (tb_1 _ (List.mem_of_getElem? (i := 66) rfl)) rfl
theorem wc_J9_min_7cf53 : Cond.code yJ9_min_7cf53 cJ9_min_7cf53 2 (some .int) ∈ lw_ok := wd_404
theorem wi_J9_min_7cf53 : Cond.initialized yJ9_min_7cf53.cls ∈ lw_ok := wd_109
theorem wn_J9_min_7cf53 : notMH yJ9_min_7cf53 := ⟨by decide, by decide⟩
theorem wp_J9_min_7cf53 : (parseMethodDescriptor yJ9_min_7cf53.desc).map (fun d => d.parameters.length) = some 2 := by decide +kernel
theorem wd_403 : Cond.static ({ cls := "java/lang/Math", name := "min", desc := "(II)I" } : MethodName) ∈ lw_ok := lw_ok_mem (tb_1 _ (List.mem_of_getElem? (i := 65) (by decide +kernel))) rfl
theorem wt_J9_min_7cf53 : Cond.static yJ9_min_7cf53 ∈ lw_ok := wd_403
theorem wd_402 : Cond.methodLink "UtilityBoard" (103 : Nat) ({ cls := "java/lang/Math", name := "min", desc := "(II)I" } : MethodName) ∈ lw_ok := lw_ok_mem (tb_1 _ (List.mem_of_getElem? (i := 64) (by decide +kernel))) rfl
theorem cs_X11_103 : CSW RX11 103 yJ9_min_7cf53 cJ9_min_7cf53 2 (some .int) 2 := ⟨wd_402, wt_J9_min_7cf53, wi_J9_min_7cf53, wc_J9_min_7cf53, wn_J9_min_7cf53, wp_J9_min_7cf53⟩
theorem wd_412 : Cond.code ({ cls := "UtilityBoard", name := "within", desc := "(III)Z" } : MethodName) prog_1_method_48_code (3 : Nat) (Option.some .boolean) ∈ lw_ok := lw_ok_mem (tb_1 _ (List.mem_of_getElem? (i := 74) rfl)) rfl
theorem wc_X11_within : Cond.code yX11_within cX11_within 3 (some .boolean) ∈ lw_ok := wd_412
theorem wi_X11_within : Cond.initialized yX11_within.cls ∈ lw_ok := wd_99
theorem wn_X11_within : notMH yX11_within := ⟨by decide, by decide⟩
theorem wp_X11_within : (parseMethodDescriptor yX11_within.desc).map (fun d => d.parameters.length) = some 3 := by decide +kernel
theorem wd_411 : Cond.static ({ cls := "UtilityBoard", name := "within", desc := "(III)Z" } : MethodName) ∈ lw_ok := lw_ok_mem (tb_1 _ (List.mem_of_getElem? (i := 73) (by decide +kernel))) rfl
theorem wt_X11_within : Cond.static yX11_within ∈ lw_ok := wd_411
theorem wd_410 : Cond.methodLink "UtilityBoard" (111 : Nat) ({ cls := "UtilityBoard", name := "within", desc := "(III)Z" } : MethodName) ∈ lw_ok := lw_ok_mem (tb_1 _ (List.mem_of_getElem? (i := 72) (by decide +kernel))) rfl
theorem cs_X11_111 : CSW RX11 111 yX11_within cX11_within 3 (some .boolean) 3 := ⟨wd_410, wt_X11_within, wi_X11_within, wc_X11_within, wn_X11_within, wp_X11_within⟩
theorem wd_416 : Cond.code ({ cls := "UtilityBoard", name := "isTaken", desc := "(I)Z" } : MethodName) prog_1_method_51_code (3 : Nat) (Option.some .boolean) ∈ lw_ok := lw_ok_mem (tb_1 _ (List.mem_of_getElem? (i := 78) rfl)) rfl
theorem wc_X11_isTaken : Cond.code yX11_isTaken cX11_isTaken 3 (some .boolean) ∈ lw_ok := wd_416
theorem wi_X11_isTaken : Cond.initialized yX11_isTaken.cls ∈ lw_ok := wd_99
theorem wn_X11_isTaken : notMH yX11_isTaken := ⟨by decide, by decide⟩
theorem wp_X11_isTaken : (parseMethodDescriptor yX11_isTaken.desc).map (fun d => d.parameters.length) = some 1 := by decide +kernel
theorem wd_415 : Cond.instanceMethod ({ cls := "UtilityBoard", name := "isTaken", desc := "(I)Z" } : MethodName) ∈ lw_ok := lw_ok_mem (tb_1 _ (List.mem_of_getElem? (i := 77) (by decide +kernel))) rfl
theorem wm_X11_isTaken : Cond.instanceMethod yX11_isTaken ∈ lw_ok := wd_415
theorem wd_7 : Cond.selects "UtilityBoard" ⟨"UtilityBoard", "isTaken", "(I)Z"⟩ ⟨"UtilityBoard", "isTaken", "(I)Z"⟩ ∈ lw_ok := lw_ok_mem (List.mem_append_left _ (List.mem_of_getElem? (i := 7) (by decide +kernel))) rfl
theorem ws_X11_isTaken : Cond.selects yX11_isTaken.cls yX11_isTaken yX11_isTaken ∈ lw_ok := wd_7
theorem wd_413 : Cond.methodLink "UtilityBoard" (115 : Nat) ({ cls := "UtilityBoard", name := "isTaken", desc := "(I)Z" } : MethodName) ∈ lw_ok := lw_ok_mem (tb_1 _ (List.mem_of_getElem? (i := 75) (by decide +kernel))) rfl
theorem cv_X11_115 : CVW RX11 115 yX11_isTaken.cls yX11_isTaken cX11_isTaken 3 (some .boolean) 1 := ⟨wd_413, wm_X11_isTaken, ws_X11_isTaken, wi_X11_isTaken, wc_X11_isTaken, wn_X11_isTaken, wp_X11_isTaken⟩
theorem wd_421 : Cond.code ({ cls := "UtilityBoard$Cloth", name := "<init>", desc := "(III)V" } : MethodName) prog_2_method_1_code (4 : Nat) none ∈ lw_ok := lw_ok_mem (tb_1 _ (List.mem_of_getElem? (i := 83) rfl)) rfl
theorem wc_X0_init : Cond.code yX0_init cX0_init 4 none ∈ lw_ok := wd_421
theorem wd_110 : Cond.initialized "UtilityBoard$Cloth" ∈ lw_ok := lw_ok_mem (tb_0 _ (List.mem_of_getElem? (i := 12) (by decide +kernel))) rfl
theorem wi_X0_init : Cond.initialized yX0_init.cls ∈ lw_ok := wd_110
theorem wn_X0_init : notMH yX0_init := ⟨by decide, by decide⟩
theorem wp_X0_init : (parseMethodDescriptor yX0_init.desc).map (fun d => d.parameters.length) = some 3 := by decide +kernel
theorem wd_420 : Cond.instanceMethod ({ cls := "UtilityBoard$Cloth", name := "<init>", desc := "(III)V" } : MethodName) ∈ lw_ok := lw_ok_mem (tb_1 _ (List.mem_of_getElem? (i := 82) (by decide +kernel))) rfl
theorem wm_X0_init : Cond.instanceMethod yX0_init ∈ lw_ok := wd_420
theorem wd_419 : Cond.methodLink "UtilityBoard" (121 : Nat) ({ cls := "UtilityBoard$Cloth", name := "<init>", desc := "(III)V" } : MethodName) ∈ lw_ok := lw_ok_mem (tb_1 _ (List.mem_of_getElem? (i := 81) (by decide +kernel))) rfl
theorem ci_X11_121 : CIW RX11 121 yX0_init cX0_init 4 3 := ⟨wd_419, wm_X0_init, wi_X0_init, wc_X0_init, rfl, wn_X0_init, wp_X0_init⟩
theorem wd_441 : Cond.code ({ cls := "java/util/ArrayList", name := "add", desc := "(Ljava/lang/Object;)Z" } : MethodName) prog_27_method_25_code (2 : Nat) (Option.some .boolean) ∈ lw_ok := lw_ok_mem (tb_1 _ (List.mem_of_getElem? (i := 103) rfl)) rfl
theorem wc_Jx4a65c_add_9ea2d : Cond.code yJx4a65c_add_9ea2d cJx4a65c_add_9ea2d 2 (some .boolean) ∈ lw_ok := wd_441
theorem wi_Jx4a65c_add_9ea2d : Cond.initialized yJx4a65c_add_9ea2d.cls ∈ lw_ok := wd_102
theorem wn_Jx4a65c_add_9ea2d : notMH yJx4a65c_add_9ea2d := ⟨by decide, by decide⟩
theorem wp_Jx4a65c_add_9ea2d : (parseMethodDescriptor yJx4a65c_add_9ea2d.desc).map (fun d => d.parameters.length) = some 1 := by decide +kernel
theorem wd_439 : Cond.instanceMethod ({ cls := "java/util/ArrayList", name := "add", desc := "(Ljava/lang/Object;)Z" } : MethodName) ∈ lw_ok := lw_ok_mem (tb_1 _ (List.mem_of_getElem? (i := 101) (by decide +kernel))) rfl
theorem wm_Jx4a65c_add_9ea2d : Cond.instanceMethod yJx4a65c_add_9ea2d ∈ lw_ok := wd_439
theorem wd_440 : Cond.selects "java/util/ArrayList" ({ cls := "java/util/ArrayList", name := "add", desc := "(Ljava/lang/Object;)Z" } : MethodName) ({ cls := "java/util/ArrayList", name := "add", desc := "(Ljava/lang/Object;)Z" } : MethodName) ∈ lw_ok := lw_ok_mem (tb_1 _ (List.mem_of_getElem? (i := 102) (by decide +kernel))) rfl
theorem ws_Jx4a65c_add_9ea2d : Cond.selects yJx4a65c_add_9ea2d.cls yJx4a65c_add_9ea2d yJx4a65c_add_9ea2d ∈ lw_ok := wd_440
theorem wd_438 : Cond.methodLink "UtilityBoard" (124 : Nat) ({ cls := "java/util/ArrayList", name := "add", desc := "(Ljava/lang/Object;)Z" } : MethodName) ∈ lw_ok := lw_ok_mem (tb_1 _ (List.mem_of_getElem? (i := 100) (by decide +kernel))) rfl
theorem cv_X11_124 : CVW RX11 124 yJx4a65c_add_9ea2d.cls yJx4a65c_add_9ea2d cJx4a65c_add_9ea2d 2 (some .boolean) 1 := ⟨wd_438, wm_Jx4a65c_add_9ea2d, ws_Jx4a65c_add_9ea2d, wi_Jx4a65c_add_9ea2d, wc_Jx4a65c_add_9ea2d, wn_Jx4a65c_add_9ea2d, wp_Jx4a65c_add_9ea2d⟩
theorem wd_503 : Cond.code ({ cls := "UtilityBoard$Drawing", name := "<init>", desc := "(I)V" } : MethodName) prog_4_method_1_code (2 : Nat) none ∈ lw_ok := lw_ok_mem (tb_1 _ (List.mem_of_getElem? (i := 165) rfl)) rfl
theorem wc_X2_init : Cond.code yX2_init cX2_init 2 none ∈ lw_ok := wd_503
theorem wd_114 : Cond.initialized "UtilityBoard$Drawing" ∈ lw_ok := lw_ok_mem (tb_0 _ (List.mem_of_getElem? (i := 16) (by decide +kernel))) rfl
theorem wi_X2_init : Cond.initialized yX2_init.cls ∈ lw_ok := wd_114
theorem wn_X2_init : notMH yX2_init := ⟨by decide, by decide⟩
theorem wp_X2_init : (parseMethodDescriptor yX2_init.desc).map (fun d => d.parameters.length) = some 1 := by decide +kernel
theorem wd_502 : Cond.instanceMethod ({ cls := "UtilityBoard$Drawing", name := "<init>", desc := "(I)V" } : MethodName) ∈ lw_ok := lw_ok_mem (tb_1 _ (List.mem_of_getElem? (i := 164) (by decide +kernel))) rfl
theorem wm_X2_init : Cond.instanceMethod yX2_init ∈ lw_ok := wd_502
theorem wd_501 : Cond.methodLink "UtilityBoard" (130 : Nat) ({ cls := "UtilityBoard$Drawing", name := "<init>", desc := "(I)V" } : MethodName) ∈ lw_ok := lw_ok_mem (tb_1 _ (List.mem_of_getElem? (i := 163) (by decide +kernel))) rfl
theorem ci_X11_130 : CIW RX11 130 yX2_init cX2_init 2 1 := ⟨wd_501, wm_X2_init, wi_X2_init, wc_X2_init, rfl, wn_X2_init, wp_X2_init⟩
theorem wd_563 : Cond.code ({ cls := "UtilityBoard", name := "findDrawing", desc := "(I)LUtilityBoard$Drawing;" } : MethodName) prog_1_method_43_code (2 : Nat) (Option.some (.object "UtilityBoard$Drawing")) ∈ lw_ok := lw_ok_mem (tb_1 _ (List.mem_of_getElem? (i := 225) rfl)) rfl
theorem wc_X11_findDrawing : Cond.code yX11_findDrawing cX11_findDrawing 2 (some (.object "UtilityBoard$Drawing")) ∈ lw_ok := wd_563
theorem wi_X11_findDrawing : Cond.initialized yX11_findDrawing.cls ∈ lw_ok := wd_99
theorem wn_X11_findDrawing : notMH yX11_findDrawing := ⟨by decide, by decide⟩
theorem wp_X11_findDrawing : (parseMethodDescriptor yX11_findDrawing.desc).map (fun d => d.parameters.length) = some 1 := by decide +kernel
theorem wd_562 : Cond.instanceMethod ({ cls := "UtilityBoard", name := "findDrawing", desc := "(I)LUtilityBoard$Drawing;" } : MethodName) ∈ lw_ok := lw_ok_mem (tb_1 _ (List.mem_of_getElem? (i := 224) (by decide +kernel))) rfl
theorem wm_X11_findDrawing : Cond.instanceMethod yX11_findDrawing ∈ lw_ok := wd_562
theorem wd_11 : Cond.selects "UtilityBoard" ⟨"UtilityBoard", "findDrawing", "(I)LUtilityBoard$Drawing;"⟩ ⟨"UtilityBoard", "findDrawing", "(I)LUtilityBoard$Drawing;"⟩ ∈ lw_ok := lw_ok_mem (List.mem_append_left _ (List.mem_of_getElem? (i := 11) (by decide +kernel))) rfl
theorem ws_X11_findDrawing : Cond.selects yX11_findDrawing.cls yX11_findDrawing yX11_findDrawing ∈ lw_ok := wd_11
theorem wd_560 : Cond.methodLink "UtilityBoard" (133 : Nat) ({ cls := "UtilityBoard", name := "findDrawing", desc := "(I)LUtilityBoard$Drawing;" } : MethodName) ∈ lw_ok := lw_ok_mem (tb_1 _ (List.mem_of_getElem? (i := 222) (by decide +kernel))) rfl
theorem cv_X11_133 : CVW RX11 133 yX11_findDrawing.cls yX11_findDrawing cX11_findDrawing 2 (some (.object "UtilityBoard$Drawing")) 1 := ⟨wd_560, wm_X11_findDrawing, ws_X11_findDrawing, wi_X11_findDrawing, wc_X11_findDrawing, wn_X11_findDrawing, wp_X11_findDrawing⟩
theorem wd_567 : Cond.code ({ cls := "UtilityBoard$Drawing", name := "addStick", desc := "(III)I" } : MethodName) prog_4_method_2_code (4 : Nat) (Option.some .int) ∈ lw_ok := lw_ok_mem (tb_1 _ (List.mem_of_getElem? (i := 229) rfl)) rfl
theorem wc_X2_addStick : Cond.code yX2_addStick cX2_addStick 4 (some .int) ∈ lw_ok := wd_567
theorem wi_X2_addStick : Cond.initialized yX2_addStick.cls ∈ lw_ok := wd_114
theorem wn_X2_addStick : notMH yX2_addStick := ⟨by decide, by decide⟩
theorem wp_X2_addStick : (parseMethodDescriptor yX2_addStick.desc).map (fun d => d.parameters.length) = some 3 := by decide +kernel
theorem wd_565 : Cond.instanceMethod ({ cls := "UtilityBoard$Drawing", name := "addStick", desc := "(III)I" } : MethodName) ∈ lw_ok := lw_ok_mem (tb_1 _ (List.mem_of_getElem? (i := 227) (by decide +kernel))) rfl
theorem wm_X2_addStick : Cond.instanceMethod yX2_addStick ∈ lw_ok := wd_565
theorem wd_566 : Cond.selects "UtilityBoard$Drawing" ({ cls := "UtilityBoard$Drawing", name := "addStick", desc := "(III)I" } : MethodName) ({ cls := "UtilityBoard$Drawing", name := "addStick", desc := "(III)I" } : MethodName) ∈ lw_ok := lw_ok_mem (tb_1 _ (List.mem_of_getElem? (i := 228) (by decide +kernel))) rfl
theorem ws_X2_addStick : Cond.selects yX2_addStick.cls yX2_addStick yX2_addStick ∈ lw_ok := wd_566
theorem wd_564 : Cond.methodLink "UtilityBoard" (137 : Nat) ({ cls := "UtilityBoard$Drawing", name := "addStick", desc := "(III)I" } : MethodName) ∈ lw_ok := lw_ok_mem (tb_1 _ (List.mem_of_getElem? (i := 226) (by decide +kernel))) rfl
theorem cv_X11_137 : CVW RX11 137 yX2_addStick.cls yX2_addStick cX2_addStick 4 (some .int) 3 := ⟨wd_564, wm_X2_addStick, ws_X2_addStick, wi_X2_addStick, wc_X2_addStick, wn_X2_addStick, wp_X2_addStick⟩
theorem wd_576 : Cond.code ({ cls := "UtilityBoard$Drawing", name := "addLoad", desc := "(II)Z" } : MethodName) prog_4_method_3_code (3 : Nat) (Option.some .boolean) ∈ lw_ok := lw_ok_mem (tb_1 _ (List.mem_of_getElem? (i := 238) rfl)) rfl
theorem wc_X2_addLoad : Cond.code yX2_addLoad cX2_addLoad 3 (some .boolean) ∈ lw_ok := wd_576
theorem wi_X2_addLoad : Cond.initialized yX2_addLoad.cls ∈ lw_ok := wd_114
theorem wn_X2_addLoad : notMH yX2_addLoad := ⟨by decide, by decide⟩
theorem wp_X2_addLoad : (parseMethodDescriptor yX2_addLoad.desc).map (fun d => d.parameters.length) = some 2 := by decide +kernel
theorem wd_574 : Cond.instanceMethod ({ cls := "UtilityBoard$Drawing", name := "addLoad", desc := "(II)Z" } : MethodName) ∈ lw_ok := lw_ok_mem (tb_1 _ (List.mem_of_getElem? (i := 236) (by decide +kernel))) rfl
theorem wm_X2_addLoad : Cond.instanceMethod yX2_addLoad ∈ lw_ok := wd_574
theorem wd_575 : Cond.selects "UtilityBoard$Drawing" ({ cls := "UtilityBoard$Drawing", name := "addLoad", desc := "(II)Z" } : MethodName) ({ cls := "UtilityBoard$Drawing", name := "addLoad", desc := "(II)Z" } : MethodName) ∈ lw_ok := lw_ok_mem (tb_1 _ (List.mem_of_getElem? (i := 237) (by decide +kernel))) rfl
theorem ws_X2_addLoad : Cond.selects yX2_addLoad.cls yX2_addLoad yX2_addLoad ∈ lw_ok := wd_575
theorem wd_573 : Cond.methodLink "UtilityBoard" (141 : Nat) ({ cls := "UtilityBoard$Drawing", name := "addLoad", desc := "(II)Z" } : MethodName) ∈ lw_ok := lw_ok_mem (tb_1 _ (List.mem_of_getElem? (i := 235) (by decide +kernel))) rfl
theorem cv_X11_141 : CVW RX11 141 yX2_addLoad.cls yX2_addLoad cX2_addLoad 3 (some .boolean) 2 := ⟨wd_573, wm_X2_addLoad, ws_X2_addLoad, wi_X2_addLoad, wc_X2_addLoad, wn_X2_addLoad, wp_X2_addLoad⟩
theorem wd_584 : Cond.code ({ cls := "UtilityBoard$Drawing", name := "holdsUp", desc := "()Z" } : MethodName) prog_4_method_4_code (2 : Nat) (Option.some .boolean) ∈ lw_ok := lw_ok_mem (tb_2 _ (List.mem_of_getElem? (i := 6) rfl)) rfl
theorem wc_X2_holdsUp : Cond.code yX2_holdsUp cX2_holdsUp 2 (some .boolean) ∈ lw_ok := wd_584
theorem wi_X2_holdsUp : Cond.initialized yX2_holdsUp.cls ∈ lw_ok := wd_114
theorem wn_X2_holdsUp : notMH yX2_holdsUp := ⟨by decide, by decide⟩
theorem wp_X2_holdsUp : (parseMethodDescriptor yX2_holdsUp.desc).map (fun d => d.parameters.length) = some 0 := by decide +kernel
theorem wd_582 : Cond.instanceMethod ({ cls := "UtilityBoard$Drawing", name := "holdsUp", desc := "()Z" } : MethodName) ∈ lw_ok := lw_ok_mem (tb_2 _ (List.mem_of_getElem? (i := 4) (by decide +kernel))) rfl
theorem wm_X2_holdsUp : Cond.instanceMethod yX2_holdsUp ∈ lw_ok := wd_582
theorem wd_583 : Cond.selects "UtilityBoard$Drawing" ({ cls := "UtilityBoard$Drawing", name := "holdsUp", desc := "()Z" } : MethodName) ({ cls := "UtilityBoard$Drawing", name := "holdsUp", desc := "()Z" } : MethodName) ∈ lw_ok := lw_ok_mem (tb_2 _ (List.mem_of_getElem? (i := 5) (by decide +kernel))) rfl
theorem ws_X2_holdsUp : Cond.selects yX2_holdsUp.cls yX2_holdsUp yX2_holdsUp ∈ lw_ok := wd_583
theorem wd_581 : Cond.methodLink "UtilityBoard" (145 : Nat) ({ cls := "UtilityBoard$Drawing", name := "holdsUp", desc := "()Z" } : MethodName) ∈ lw_ok := lw_ok_mem (tb_2 _ (List.mem_of_getElem? (i := 3) (by decide +kernel))) rfl
theorem cv_X11_145 : CVW RX11 145 yX2_holdsUp.cls yX2_holdsUp cX2_holdsUp 2 (some .boolean) 0 := ⟨wd_581, wm_X2_holdsUp, ws_X2_holdsUp, wi_X2_holdsUp, wc_X2_holdsUp, wn_X2_holdsUp, wp_X2_holdsUp⟩
theorem wd_625 : Cond.code ({ cls := "UtilityBoard$Drawing", name := "fewestInches", desc := "()I" } : MethodName) prog_4_method_5_code (1 : Nat) (Option.some .int) ∈ lw_ok := lw_ok_mem (tb_2 _ (List.mem_of_getElem? (i := 47) rfl)) rfl
theorem wc_X2_fewestInches : Cond.code yX2_fewestInches cX2_fewestInches 1 (some .int) ∈ lw_ok := wd_625
theorem wi_X2_fewestInches : Cond.initialized yX2_fewestInches.cls ∈ lw_ok := wd_114
theorem wn_X2_fewestInches : notMH yX2_fewestInches := ⟨by decide, by decide⟩
theorem wp_X2_fewestInches : (parseMethodDescriptor yX2_fewestInches.desc).map (fun d => d.parameters.length) = some 0 := by decide +kernel
theorem wd_623 : Cond.instanceMethod ({ cls := "UtilityBoard$Drawing", name := "fewestInches", desc := "()I" } : MethodName) ∈ lw_ok := lw_ok_mem (tb_2 _ (List.mem_of_getElem? (i := 45) (by decide +kernel))) rfl
theorem wm_X2_fewestInches : Cond.instanceMethod yX2_fewestInches ∈ lw_ok := wd_623
theorem wd_624 : Cond.selects "UtilityBoard$Drawing" ({ cls := "UtilityBoard$Drawing", name := "fewestInches", desc := "()I" } : MethodName) ({ cls := "UtilityBoard$Drawing", name := "fewestInches", desc := "()I" } : MethodName) ∈ lw_ok := lw_ok_mem (tb_2 _ (List.mem_of_getElem? (i := 46) (by decide +kernel))) rfl
theorem ws_X2_fewestInches : Cond.selects yX2_fewestInches.cls yX2_fewestInches yX2_fewestInches ∈ lw_ok := wd_624
theorem wd_622 : Cond.methodLink "UtilityBoard" (152 : Nat) ({ cls := "UtilityBoard$Drawing", name := "fewestInches", desc := "()I" } : MethodName) ∈ lw_ok := lw_ok_mem (tb_2 _ (List.mem_of_getElem? (i := 44) (by decide +kernel))) rfl
theorem cv_X11_152 : CVW RX11 152 yX2_fewestInches.cls yX2_fewestInches cX2_fewestInches 1 (some .int) 0 := ⟨wd_622, wm_X2_fewestInches, ws_X2_fewestInches, wi_X2_fewestInches, wc_X2_fewestInches, wn_X2_fewestInches, wp_X2_fewestInches⟩
theorem wd_640 : Cond.code ({ cls := "UtilityBoard", name := "isMadeOf", desc := "(II)Z" } : MethodName) prog_1_method_52_code (3 : Nat) (Option.some .boolean) ∈ lw_ok := lw_ok_mem (tb_2 _ (List.mem_of_getElem? (i := 62) rfl)) rfl
theorem wc_X11_isMadeOf : Cond.code yX11_isMadeOf cX11_isMadeOf 3 (some .boolean) ∈ lw_ok := wd_640
theorem wi_X11_isMadeOf : Cond.initialized yX11_isMadeOf.cls ∈ lw_ok := wd_99
theorem wn_X11_isMadeOf : notMH yX11_isMadeOf := ⟨by decide, by decide⟩
theorem wp_X11_isMadeOf : (parseMethodDescriptor yX11_isMadeOf.desc).map (fun d => d.parameters.length) = some 2 := by decide +kernel
theorem wd_639 : Cond.instanceMethod ({ cls := "UtilityBoard", name := "isMadeOf", desc := "(II)Z" } : MethodName) ∈ lw_ok := lw_ok_mem (tb_2 _ (List.mem_of_getElem? (i := 61) (by decide +kernel))) rfl
theorem wm_X11_isMadeOf : Cond.instanceMethod yX11_isMadeOf ∈ lw_ok := wd_639
theorem wd_19 : Cond.selects "UtilityBoard" ⟨"UtilityBoard", "isMadeOf", "(II)Z"⟩ ⟨"UtilityBoard", "isMadeOf", "(II)Z"⟩ ∈ lw_ok := lw_ok_mem (List.mem_append_left _ (List.mem_of_getElem? (i := 19) (by decide +kernel))) rfl
theorem ws_X11_isMadeOf : Cond.selects yX11_isMadeOf.cls yX11_isMadeOf yX11_isMadeOf ∈ lw_ok := wd_19
theorem wd_637 : Cond.methodLink "UtilityBoard" (158 : Nat) ({ cls := "UtilityBoard", name := "isMadeOf", desc := "(II)Z" } : MethodName) ∈ lw_ok := lw_ok_mem (tb_2 _ (List.mem_of_getElem? (i := 59) (by decide +kernel))) rfl
theorem cv_X11_158 : CVW RX11 158 yX11_isMadeOf.cls yX11_isMadeOf cX11_isMadeOf 3 (some .boolean) 2 := ⟨wd_637, wm_X11_isMadeOf, ws_X11_isMadeOf, wi_X11_isMadeOf, wc_X11_isMadeOf, wn_X11_isMadeOf, wp_X11_isMadeOf⟩
theorem wd_644 : Cond.code ({ cls := "UtilityBoard", name := "findCloth", desc := "(I)LUtilityBoard$Cloth;" } : MethodName) prog_1_method_42_code (2 : Nat) (Option.some (.object "UtilityBoard$Cloth")) ∈ lw_ok := lw_ok_mem (tb_2 _ (List.mem_of_getElem? (i := 66) rfl)) rfl
theorem wc_X11_findCloth : Cond.code yX11_findCloth cX11_findCloth 2 (some (.object "UtilityBoard$Cloth")) ∈ lw_ok := wd_644
theorem wi_X11_findCloth : Cond.initialized yX11_findCloth.cls ∈ lw_ok := wd_99
theorem wn_X11_findCloth : notMH yX11_findCloth := ⟨by decide, by decide⟩
theorem wp_X11_findCloth : (parseMethodDescriptor yX11_findCloth.desc).map (fun d => d.parameters.length) = some 1 := by decide +kernel
theorem wd_643 : Cond.instanceMethod ({ cls := "UtilityBoard", name := "findCloth", desc := "(I)LUtilityBoard$Cloth;" } : MethodName) ∈ lw_ok := lw_ok_mem (tb_2 _ (List.mem_of_getElem? (i := 65) (by decide +kernel))) rfl
theorem wm_X11_findCloth : Cond.instanceMethod yX11_findCloth ∈ lw_ok := wd_643
theorem wd_20 : Cond.selects "UtilityBoard" ⟨"UtilityBoard", "findCloth", "(I)LUtilityBoard$Cloth;"⟩ ⟨"UtilityBoard", "findCloth", "(I)LUtilityBoard$Cloth;"⟩ ∈ lw_ok := lw_ok_mem (List.mem_append_left _ (List.mem_of_getElem? (i := 20) (by decide +kernel))) rfl
theorem ws_X11_findCloth : Cond.selects yX11_findCloth.cls yX11_findCloth yX11_findCloth ∈ lw_ok := wd_20
theorem wd_641 : Cond.methodLink "UtilityBoard" (161 : Nat) ({ cls := "UtilityBoard", name := "findCloth", desc := "(I)LUtilityBoard$Cloth;" } : MethodName) ∈ lw_ok := lw_ok_mem (tb_2 _ (List.mem_of_getElem? (i := 63) (by decide +kernel))) rfl
theorem cv_X11_161 : CVW RX11 161 yX11_findCloth.cls yX11_findCloth cX11_findCloth 2 (some (.object "UtilityBoard$Cloth")) 1 := ⟨wd_641, wm_X11_findCloth, ws_X11_findCloth, wi_X11_findCloth, wc_X11_findCloth, wn_X11_findCloth, wp_X11_findCloth⟩
theorem wd_649 : Cond.code ({ cls := "UtilityBoard$Thing", name := "<init>", desc := "(IILUtilityBoard$Cloth;II)V" } : MethodName) prog_12_method_1_code (7 : Nat) none ∈ lw_ok := lw_ok_mem (tb_2 _ (List.mem_of_getElem? (i := 71) rfl)) rfl
theorem wc_X10_init : Cond.code yX10_init cX10_init 7 none ∈ lw_ok := wd_649
theorem wd_116 : Cond.initialized "UtilityBoard$Thing" ∈ lw_ok := lw_ok_mem (tb_0 _ (List.mem_of_getElem? (i := 18) (by decide +kernel))) rfl
theorem wi_X10_init : Cond.initialized yX10_init.cls ∈ lw_ok := wd_116
theorem wn_X10_init : notMH yX10_init := ⟨by decide, by decide⟩
theorem wp_X10_init : (parseMethodDescriptor yX10_init.desc).map (fun d => d.parameters.length) = some 5 := by decide +kernel
theorem wd_648 : Cond.instanceMethod ({ cls := "UtilityBoard$Thing", name := "<init>", desc := "(IILUtilityBoard$Cloth;II)V" } : MethodName) ∈ lw_ok := lw_ok_mem (tb_2 _ (List.mem_of_getElem? (i := 70) (by decide +kernel))) rfl
theorem wm_X10_init : Cond.instanceMethod yX10_init ∈ lw_ok := wd_648
theorem wd_647 : Cond.methodLink "UtilityBoard" (167 : Nat) ({ cls := "UtilityBoard$Thing", name := "<init>", desc := "(IILUtilityBoard$Cloth;II)V" } : MethodName) ∈ lw_ok := lw_ok_mem (tb_2 _ (List.mem_of_getElem? (i := 69) (by decide +kernel))) rfl
theorem ci_X11_167 : CIW RX11 167 yX10_init cX10_init 7 5 := ⟨wd_647, wm_X10_init, wi_X10_init, wc_X10_init, rfl, wn_X10_init, wp_X10_init⟩
theorem wd_702 : Cond.code ({ cls := "UtilityBoard", name := "findCoat", desc := "(I)LUtilityBoard$Thing;" } : MethodName) prog_1_method_45_code (3 : Nat) (Option.some (.object "UtilityBoard$Thing")) ∈ lw_ok := lw_ok_mem (tb_2 _ (List.mem_of_getElem? (i := 124) rfl)) rfl
theorem wc_X11_findCoat : Cond.code yX11_findCoat cX11_findCoat 3 (some (.object "UtilityBoard$Thing")) ∈ lw_ok := wd_702
theorem wi_X11_findCoat : Cond.initialized yX11_findCoat.cls ∈ lw_ok := wd_99
theorem wn_X11_findCoat : notMH yX11_findCoat := ⟨by decide, by decide⟩
theorem wp_X11_findCoat : (parseMethodDescriptor yX11_findCoat.desc).map (fun d => d.parameters.length) = some 1 := by decide +kernel
theorem wd_701 : Cond.instanceMethod ({ cls := "UtilityBoard", name := "findCoat", desc := "(I)LUtilityBoard$Thing;" } : MethodName) ∈ lw_ok := lw_ok_mem (tb_2 _ (List.mem_of_getElem? (i := 123) (by decide +kernel))) rfl
theorem wm_X11_findCoat : Cond.instanceMethod yX11_findCoat ∈ lw_ok := wd_701
theorem wd_21 : Cond.selects "UtilityBoard" ⟨"UtilityBoard", "findCoat", "(I)LUtilityBoard$Thing;"⟩ ⟨"UtilityBoard", "findCoat", "(I)LUtilityBoard$Thing;"⟩ ∈ lw_ok := lw_ok_mem (List.mem_append_left _ (List.mem_of_getElem? (i := 21) (by decide +kernel))) rfl
theorem ws_X11_findCoat : Cond.selects yX11_findCoat.cls yX11_findCoat yX11_findCoat ∈ lw_ok := wd_21
theorem wd_699 : Cond.methodLink "UtilityBoard" (170 : Nat) ({ cls := "UtilityBoard", name := "findCoat", desc := "(I)LUtilityBoard$Thing;" } : MethodName) ∈ lw_ok := lw_ok_mem (tb_2 _ (List.mem_of_getElem? (i := 121) (by decide +kernel))) rfl
theorem cv_X11_170 : CVW RX11 170 yX11_findCoat.cls yX11_findCoat cX11_findCoat 3 (some (.object "UtilityBoard$Thing")) 1 := ⟨wd_699, wm_X11_findCoat, ws_X11_findCoat, wi_X11_findCoat, wc_X11_findCoat, wn_X11_findCoat, wp_X11_findCoat⟩
theorem wd_710 : Cond.code ({ cls := "UtilityBoard$Thing", name := "addPiece", desc := "(II)I" } : MethodName) prog_12_method_2_code (3 : Nat) (Option.some .int) ∈ lw_ok := lw_ok_mem (tb_2 _ (List.mem_of_getElem? (i := 132) rfl)) rfl
theorem wc_X10_addPiece : Cond.code yX10_addPiece cX10_addPiece 3 (some .int) ∈ lw_ok := wd_710
theorem wi_X10_addPiece : Cond.initialized yX10_addPiece.cls ∈ lw_ok := wd_116
theorem wn_X10_addPiece : notMH yX10_addPiece := ⟨by decide, by decide⟩
theorem wp_X10_addPiece : (parseMethodDescriptor yX10_addPiece.desc).map (fun d => d.parameters.length) = some 2 := by decide +kernel
theorem wd_708 : Cond.instanceMethod ({ cls := "UtilityBoard$Thing", name := "addPiece", desc := "(II)I" } : MethodName) ∈ lw_ok := lw_ok_mem (tb_2 _ (List.mem_of_getElem? (i := 130) (by decide +kernel))) rfl
theorem wm_X10_addPiece : Cond.instanceMethod yX10_addPiece ∈ lw_ok := wd_708
theorem wd_709 : Cond.selects "UtilityBoard$Thing" ({ cls := "UtilityBoard$Thing", name := "addPiece", desc := "(II)I" } : MethodName) ({ cls := "UtilityBoard$Thing", name := "addPiece", desc := "(II)I" } : MethodName) ∈ lw_ok := lw_ok_mem (tb_2 _ (List.mem_of_getElem? (i := 131) (by decide +kernel))) rfl
theorem ws_X10_addPiece : Cond.selects yX10_addPiece.cls yX10_addPiece yX10_addPiece ∈ lw_ok := wd_709
theorem wd_707 : Cond.methodLink "UtilityBoard" (174 : Nat) ({ cls := "UtilityBoard$Thing", name := "addPiece", desc := "(II)I" } : MethodName) ∈ lw_ok := lw_ok_mem (tb_2 _ (List.mem_of_getElem? (i := 129) (by decide +kernel))) rfl
theorem cv_X11_174 : CVW RX11 174 yX10_addPiece.cls yX10_addPiece cX10_addPiece 3 (some .int) 2 := ⟨wd_707, wm_X10_addPiece, ws_X10_addPiece, wi_X10_addPiece, wc_X10_addPiece, wn_X10_addPiece, wp_X10_addPiece⟩
theorem wd_719 : Cond.code ({ cls := "UtilityBoard$Layout", name := "isWholeOrder", desc := "(LUtilityBoard$Thing;[BI)Z" } : MethodName) prog_7_method_2_code (6 : Nat) (Option.some .boolean) ∈ lw_ok := lw_ok_mem (tb_2 _ (List.mem_of_getElem? (i := 141) rfl)) rfl
theorem wc_X5_isWholeOrder : Cond.code yX5_isWholeOrder cX5_isWholeOrder 6 (some .boolean) ∈ lw_ok := wd_719
theorem wd_105 : Cond.initialized "UtilityBoard$Layout" ∈ lw_ok := lw_ok_mem (tb_0 _ (List.mem_of_getElem? (i := 7) (by decide +kernel))) rfl
theorem wi_X5_isWholeOrder : Cond.initialized yX5_isWholeOrder.cls ∈ lw_ok := wd_105
theorem wn_X5_isWholeOrder : notMH yX5_isWholeOrder := ⟨by decide, by decide⟩
theorem wp_X5_isWholeOrder : (parseMethodDescriptor yX5_isWholeOrder.desc).map (fun d => d.parameters.length) = some 3 := by decide +kernel
theorem wd_717 : Cond.instanceMethod ({ cls := "UtilityBoard$Layout", name := "isWholeOrder", desc := "(LUtilityBoard$Thing;[BI)Z" } : MethodName) ∈ lw_ok := lw_ok_mem (tb_2 _ (List.mem_of_getElem? (i := 139) (by decide +kernel))) rfl
theorem wm_X5_isWholeOrder : Cond.instanceMethod yX5_isWholeOrder ∈ lw_ok := wd_717
theorem wd_718 : Cond.selects "UtilityBoard$Layout" ({ cls := "UtilityBoard$Layout", name := "isWholeOrder", desc := "(LUtilityBoard$Thing;[BI)Z" } : MethodName) ({ cls := "UtilityBoard$Layout", name := "isWholeOrder", desc := "(LUtilityBoard$Thing;[BI)Z" } : MethodName) ∈ lw_ok := lw_ok_mem (tb_2 _ (List.mem_of_getElem? (i := 140) (by decide +kernel))) rfl
theorem ws_X5_isWholeOrder : Cond.selects yX5_isWholeOrder.cls yX5_isWholeOrder yX5_isWholeOrder ∈ lw_ok := wd_718
theorem wd_716 : Cond.methodLink "UtilityBoard" (177 : Nat) ({ cls := "UtilityBoard$Layout", name := "isWholeOrder", desc := "(LUtilityBoard$Thing;[BI)Z" } : MethodName) ∈ lw_ok := lw_ok_mem (tb_2 _ (List.mem_of_getElem? (i := 138) (by decide +kernel))) rfl
theorem cv_X11_177 : CVW RX11 177 yX5_isWholeOrder.cls yX5_isWholeOrder cX5_isWholeOrder 6 (some .boolean) 3 := ⟨wd_716, wm_X5_isWholeOrder, ws_X5_isWholeOrder, wi_X5_isWholeOrder, wc_X5_isWholeOrder, wn_X5_isWholeOrder, wp_X5_isWholeOrder⟩
theorem wd_724 : Cond.code ({ cls := "UtilityBoard$Thing", name := "widest", desc := "()I" } : MethodName) prog_12_method_3_code (3 : Nat) (Option.some .int) ∈ lw_ok := lw_ok_mem (tb_2 _ (List.mem_of_getElem? (i := 146) rfl)) rfl
theorem wc_X10_widest : Cond.code yX10_widest cX10_widest 3 (some .int) ∈ lw_ok := wd_724
theorem wi_X10_widest : Cond.initialized yX10_widest.cls ∈ lw_ok := wd_116
theorem wn_X10_widest : notMH yX10_widest := ⟨by decide, by decide⟩
theorem wp_X10_widest : (parseMethodDescriptor yX10_widest.desc).map (fun d => d.parameters.length) = some 0 := by decide +kernel
theorem wd_722 : Cond.instanceMethod ({ cls := "UtilityBoard$Thing", name := "widest", desc := "()I" } : MethodName) ∈ lw_ok := lw_ok_mem (tb_2 _ (List.mem_of_getElem? (i := 144) (by decide +kernel))) rfl
theorem wm_X10_widest : Cond.instanceMethod yX10_widest ∈ lw_ok := wd_722
theorem wd_723 : Cond.selects "UtilityBoard$Thing" ({ cls := "UtilityBoard$Thing", name := "widest", desc := "()I" } : MethodName) ({ cls := "UtilityBoard$Thing", name := "widest", desc := "()I" } : MethodName) ∈ lw_ok := lw_ok_mem (tb_2 _ (List.mem_of_getElem? (i := 145) (by decide +kernel))) rfl
theorem ws_X10_widest : Cond.selects yX10_widest.cls yX10_widest yX10_widest ∈ lw_ok := wd_723
theorem wd_721 : Cond.methodLink "UtilityBoard" (181 : Nat) ({ cls := "UtilityBoard$Thing", name := "widest", desc := "()I" } : MethodName) ∈ lw_ok := lw_ok_mem (tb_2 _ (List.mem_of_getElem? (i := 143) (by decide +kernel))) rfl
theorem cv_X11_181 : CVW RX11 181 yX10_widest.cls yX10_widest cX10_widest 3 (some .int) 0 := ⟨wd_721, wm_X10_widest, ws_X10_widest, wi_X10_widest, wc_X10_widest, wn_X10_widest, wp_X10_widest⟩
theorem wd_729 : Cond.code ({ cls := "UtilityBoard$Layout", name := "lengthOf", desc := "(LUtilityBoard$Thing;I[B)I" } : MethodName) prog_7_method_3_code (9 : Nat) (Option.some .int) ∈ lw_ok := lw_ok_mem (tb_2 _ (List.mem_of_getElem? (i := 151) rfl)) rfl
theorem wc_X5_lengthOf : Cond.code yX5_lengthOf cX5_lengthOf 9 (some .int) ∈ lw_ok := wd_729
theorem wi_X5_lengthOf : Cond.initialized yX5_lengthOf.cls ∈ lw_ok := wd_105
theorem wn_X5_lengthOf : notMH yX5_lengthOf := ⟨by decide, by decide⟩
theorem wp_X5_lengthOf : (parseMethodDescriptor yX5_lengthOf.desc).map (fun d => d.parameters.length) = some 3 := by decide +kernel
theorem wd_727 : Cond.instanceMethod ({ cls := "UtilityBoard$Layout", name := "lengthOf", desc := "(LUtilityBoard$Thing;I[B)I" } : MethodName) ∈ lw_ok := lw_ok_mem (tb_2 _ (List.mem_of_getElem? (i := 149) (by decide +kernel))) rfl
theorem wm_X5_lengthOf : Cond.instanceMethod yX5_lengthOf ∈ lw_ok := wd_727
theorem wd_728 : Cond.selects "UtilityBoard$Layout" ({ cls := "UtilityBoard$Layout", name := "lengthOf", desc := "(LUtilityBoard$Thing;I[B)I" } : MethodName) ({ cls := "UtilityBoard$Layout", name := "lengthOf", desc := "(LUtilityBoard$Thing;I[B)I" } : MethodName) ∈ lw_ok := lw_ok_mem (tb_2 _ (List.mem_of_getElem? (i := 150) (by decide +kernel))) rfl
theorem ws_X5_lengthOf : Cond.selects yX5_lengthOf.cls yX5_lengthOf yX5_lengthOf ∈ lw_ok := wd_728
theorem wd_726 : Cond.methodLink "UtilityBoard" (184 : Nat) ({ cls := "UtilityBoard$Layout", name := "lengthOf", desc := "(LUtilityBoard$Thing;I[B)I" } : MethodName) ∈ lw_ok := lw_ok_mem (tb_2 _ (List.mem_of_getElem? (i := 148) (by decide +kernel))) rfl
theorem cv_X11_184 : CVW RX11 184 yX5_lengthOf.cls yX5_lengthOf cX5_lengthOf 9 (some .int) 3 := ⟨wd_726, wm_X5_lengthOf, ws_X5_lengthOf, wi_X5_lengthOf, wc_X5_lengthOf, wn_X5_lengthOf, wp_X5_lengthOf⟩
theorem wd_738 : Cond.code ({ cls := "UtilityBoard$Layout", name := "search", desc := "(LUtilityBoard$Thing;I)V" } : MethodName) prog_7_method_4_code (4 : Nat) none ∈ lw_ok := lw_ok_mem (tb_2 _ (List.mem_of_getElem? (i := 160) rfl)) rfl
theorem wc_X5_search : Cond.code yX5_search cX5_search 4 none ∈ lw_ok := wd_738
theorem wi_X5_search : Cond.initialized yX5_search.cls ∈ lw_ok := wd_105
theorem wn_X5_search : notMH yX5_search := ⟨by decide, by decide⟩
theorem wp_X5_search : (parseMethodDescriptor yX5_search.desc).map (fun d => d.parameters.length) = some 2 := by decide +kernel
theorem wd_736 : Cond.instanceMethod ({ cls := "UtilityBoard$Layout", name := "search", desc := "(LUtilityBoard$Thing;I)V" } : MethodName) ∈ lw_ok := lw_ok_mem (tb_2 _ (List.mem_of_getElem? (i := 158) (by decide +kernel))) rfl
theorem wm_X5_search : Cond.instanceMethod yX5_search ∈ lw_ok := wd_736
theorem wd_737 : Cond.selects "UtilityBoard$Layout" ({ cls := "UtilityBoard$Layout", name := "search", desc := "(LUtilityBoard$Thing;I)V" } : MethodName) ({ cls := "UtilityBoard$Layout", name := "search", desc := "(LUtilityBoard$Thing;I)V" } : MethodName) ∈ lw_ok := lw_ok_mem (tb_2 _ (List.mem_of_getElem? (i := 159) (by decide +kernel))) rfl
theorem ws_X5_search : Cond.selects yX5_search.cls yX5_search yX5_search ∈ lw_ok := wd_737
theorem wd_735 : Cond.methodLink "UtilityBoard" (191 : Nat) ({ cls := "UtilityBoard$Layout", name := "search", desc := "(LUtilityBoard$Thing;I)V" } : MethodName) ∈ lw_ok := lw_ok_mem (tb_2 _ (List.mem_of_getElem? (i := 157) (by decide +kernel))) rfl
theorem cv_X11_191 : CVW RX11 191 yX5_search.cls yX5_search cX5_search 4 none 2 := ⟨wd_735, wm_X5_search, ws_X5_search, wi_X5_search, wc_X5_search, wn_X5_search, wp_X5_search⟩
theorem wd_767 : Cond.code ({ cls := "UtilityBoard$Maker", name := "<init>", desc := "(IIIII)V" } : MethodName) prog_8_method_1_code (6 : Nat) none ∈ lw_ok := lw_ok_mem (tb_2 _ (List.mem_of_getElem? (i := 189) rfl)) rfl
theorem wc_X6_init : Cond.code yX6_init cX6_init 6 none ∈ lw_ok := wd_767
theorem wd_117 : Cond.initialized "UtilityBoard$Maker" ∈ lw_ok := lw_ok_mem (tb_0 _ (List.mem_of_getElem? (i := 19) (by decide +kernel))) rfl
theorem wi_X6_init : Cond.initialized yX6_init.cls ∈ lw_ok := wd_117
theorem wn_X6_init : notMH yX6_init := ⟨by decide, by decide⟩
theorem wp_X6_init : (parseMethodDescriptor yX6_init.desc).map (fun d => d.parameters.length) = some 5 := by decide +kernel
theorem wd_766 : Cond.instanceMethod ({ cls := "UtilityBoard$Maker", name := "<init>", desc := "(IIIII)V" } : MethodName) ∈ lw_ok := lw_ok_mem (tb_2 _ (List.mem_of_getElem? (i := 188) (by decide +kernel))) rfl
theorem wm_X6_init : Cond.instanceMethod yX6_init ∈ lw_ok := wd_766
theorem wd_765 : Cond.methodLink "UtilityBoard" (201 : Nat) ({ cls := "UtilityBoard$Maker", name := "<init>", desc := "(IIIII)V" } : MethodName) ∈ lw_ok := lw_ok_mem (tb_2 _ (List.mem_of_getElem? (i := 187) (by decide +kernel))) rfl
theorem ci_X11_201 : CIW RX11 201 yX6_init cX6_init 6 5 := ⟨wd_765, wm_X6_init, wi_X6_init, wc_X6_init, rfl, wn_X6_init, wp_X6_init⟩
theorem wd_808 : Cond.code ({ cls := "UtilityBoard", name := "putByRate", desc := "(II)V" } : MethodName) prog_1_method_61_code (5 : Nat) none ∈ lw_ok := lw_ok_mem (tb_2 _ (List.mem_of_getElem? (i := 230) rfl)) rfl
theorem wc_X11_putByRate : Cond.code yX11_putByRate cX11_putByRate 5 none ∈ lw_ok := wd_808
theorem wi_X11_putByRate : Cond.initialized yX11_putByRate.cls ∈ lw_ok := wd_99
theorem wn_X11_putByRate : notMH yX11_putByRate := ⟨by decide, by decide⟩
theorem wp_X11_putByRate : (parseMethodDescriptor yX11_putByRate.desc).map (fun d => d.parameters.length) = some 2 := by decide +kernel
theorem wd_807 : Cond.instanceMethod ({ cls := "UtilityBoard", name := "putByRate", desc := "(II)V" } : MethodName) ∈ lw_ok := lw_ok_mem (tb_2 _ (List.mem_of_getElem? (i := 229) (by decide +kernel))) rfl
theorem wm_X11_putByRate : Cond.instanceMethod yX11_putByRate ∈ lw_ok := wd_807
theorem wd_27 : Cond.selects "UtilityBoard" ⟨"UtilityBoard", "putByRate", "(II)V"⟩ ⟨"UtilityBoard", "putByRate", "(II)V"⟩ ∈ lw_ok := lw_ok_mem (List.mem_append_left _ (List.mem_of_getElem? (i := 27) (by decide +kernel))) rfl
theorem ws_X11_putByRate : Cond.selects yX11_putByRate.cls yX11_putByRate yX11_putByRate ∈ lw_ok := wd_27
theorem wd_805 : Cond.methodLink "UtilityBoard" (204 : Nat) ({ cls := "UtilityBoard", name := "putByRate", desc := "(II)V" } : MethodName) ∈ lw_ok := lw_ok_mem (tb_2 _ (List.mem_of_getElem? (i := 227) (by decide +kernel))) rfl
theorem cv_X11_204 : CVW RX11 204 yX11_putByRate.cls yX11_putByRate cX11_putByRate 5 none 2 := ⟨wd_805, wm_X11_putByRate, ws_X11_putByRate, wi_X11_putByRate, wc_X11_putByRate, wn_X11_putByRate, wp_X11_putByRate⟩
theorem wd_816 : Cond.code ({ cls := "UtilityBoard", name := "findMaker", desc := "(I)LUtilityBoard$Maker;" } : MethodName) prog_1_method_46_code (2 : Nat) (Option.some (.object "UtilityBoard$Maker")) ∈ lw_ok := lw_ok_mem (tb_2 _ (List.mem_of_getElem? (i := 238) rfl)) rfl
theorem wc_X11_findMaker : Cond.code yX11_findMaker cX11_findMaker 2 (some (.object "UtilityBoard$Maker")) ∈ lw_ok := wd_816
theorem wi_X11_findMaker : Cond.initialized yX11_findMaker.cls ∈ lw_ok := wd_99
theorem wn_X11_findMaker : notMH yX11_findMaker := ⟨by decide, by decide⟩
theorem wp_X11_findMaker : (parseMethodDescriptor yX11_findMaker.desc).map (fun d => d.parameters.length) = some 1 := by decide +kernel
theorem wd_815 : Cond.instanceMethod ({ cls := "UtilityBoard", name := "findMaker", desc := "(I)LUtilityBoard$Maker;" } : MethodName) ∈ lw_ok := lw_ok_mem (tb_2 _ (List.mem_of_getElem? (i := 237) (by decide +kernel))) rfl
theorem wm_X11_findMaker : Cond.instanceMethod yX11_findMaker ∈ lw_ok := wd_815
theorem wd_28 : Cond.selects "UtilityBoard" ⟨"UtilityBoard", "findMaker", "(I)LUtilityBoard$Maker;"⟩ ⟨"UtilityBoard", "findMaker", "(I)LUtilityBoard$Maker;"⟩ ∈ lw_ok := lw_ok_mem (List.mem_append_left _ (List.mem_of_getElem? (i := 28) (by decide +kernel))) rfl
theorem ws_X11_findMaker : Cond.selects yX11_findMaker.cls yX11_findMaker yX11_findMaker ∈ lw_ok := wd_28
theorem wd_813 : Cond.methodLink "UtilityBoard" (208 : Nat) ({ cls := "UtilityBoard", name := "findMaker", desc := "(I)LUtilityBoard$Maker;" } : MethodName) ∈ lw_ok := lw_ok_mem (tb_2 _ (List.mem_of_getElem? (i := 235) (by decide +kernel))) rfl
theorem cv_X11_208 : CVW RX11 208 yX11_findMaker.cls yX11_findMaker cX11_findMaker 2 (some (.object "UtilityBoard$Maker")) 1 := ⟨wd_813, wm_X11_findMaker, ws_X11_findMaker, wi_X11_findMaker, wc_X11_findMaker, wn_X11_findMaker, wp_X11_findMaker⟩
theorem wd_828 : Cond.code ({ cls := "UtilityBoard", name := "putOnTape", desc := "(I)V" } : MethodName) prog_1_method_53_code (3 : Nat) none ∈ lw_ok := lw_ok_mem (tb_3 _ (List.mem_of_getElem? (i := 10) rfl)) rfl
theorem wc_X11_putOnTape : Cond.code yX11_putOnTape cX11_putOnTape 3 none ∈ lw_ok := wd_828
theorem wi_X11_putOnTape : Cond.initialized yX11_putOnTape.cls ∈ lw_ok := wd_99
theorem wn_X11_putOnTape : notMH yX11_putOnTape := ⟨by decide, by decide⟩
theorem wp_X11_putOnTape : (parseMethodDescriptor yX11_putOnTape.desc).map (fun d => d.parameters.length) = some 1 := by decide +kernel
theorem wd_827 : Cond.instanceMethod ({ cls := "UtilityBoard", name := "putOnTape", desc := "(I)V" } : MethodName) ∈ lw_ok := lw_ok_mem (tb_3 _ (List.mem_of_getElem? (i := 9) (by decide +kernel))) rfl
theorem wm_X11_putOnTape : Cond.instanceMethod yX11_putOnTape ∈ lw_ok := wd_827
theorem wd_29 : Cond.selects "UtilityBoard" ⟨"UtilityBoard", "putOnTape", "(I)V"⟩ ⟨"UtilityBoard", "putOnTape", "(I)V"⟩ ∈ lw_ok := lw_ok_mem (List.mem_append_left _ (List.mem_of_getElem? (i := 29) (by decide +kernel))) rfl
theorem ws_X11_putOnTape : Cond.selects yX11_putOnTape.cls yX11_putOnTape yX11_putOnTape ∈ lw_ok := wd_29
theorem wd_825 : Cond.methodLink "UtilityBoard" (219 : Nat) ({ cls := "UtilityBoard", name := "putOnTape", desc := "(I)V" } : MethodName) ∈ lw_ok := lw_ok_mem (tb_3 _ (List.mem_of_getElem? (i := 7) (by decide +kernel))) rfl
theorem cv_X11_219 : CVW RX11 219 yX11_putOnTape.cls yX11_putOnTape cX11_putOnTape 3 none 1 := ⟨wd_825, wm_X11_putOnTape, ws_X11_putOnTape, wi_X11_putOnTape, wc_X11_putOnTape, wn_X11_putOnTape, wp_X11_putOnTape⟩
theorem wd_836 : Cond.code ({ cls := "UtilityBoard$Reader", name := "read", desc := "([BI)I" } : MethodName) prog_11_method_2_code (4 : Nat) (Option.some .int) ∈ lw_ok := lw_ok_mem (tb_3 _ (List.mem_of_getElem? (i := 18) rfl)) rfl
theorem wc_X9_read : Cond.code yX9_read cX9_read 4 (some .int) ∈ lw_ok := wd_836
theorem wd_103 : Cond.initialized "UtilityBoard$Reader" ∈ lw_ok := lw_ok_mem (tb_0 _ (List.mem_of_getElem? (i := 5) (by decide +kernel))) rfl
theorem wi_X9_read : Cond.initialized yX9_read.cls ∈ lw_ok := wd_103
theorem wn_X9_read : notMH yX9_read := ⟨by decide, by decide⟩
theorem wp_X9_read : (parseMethodDescriptor yX9_read.desc).map (fun d => d.parameters.length) = some 2 := by decide +kernel
theorem wd_834 : Cond.instanceMethod ({ cls := "UtilityBoard$Reader", name := "read", desc := "([BI)I" } : MethodName) ∈ lw_ok := lw_ok_mem (tb_3 _ (List.mem_of_getElem? (i := 16) (by decide +kernel))) rfl
theorem wm_X9_read : Cond.instanceMethod yX9_read ∈ lw_ok := wd_834
theorem wd_835 : Cond.selects "UtilityBoard$Reader" ({ cls := "UtilityBoard$Reader", name := "read", desc := "([BI)I" } : MethodName) ({ cls := "UtilityBoard$Reader", name := "read", desc := "([BI)I" } : MethodName) ∈ lw_ok := lw_ok_mem (tb_3 _ (List.mem_of_getElem? (i := 17) (by decide +kernel))) rfl
theorem ws_X9_read : Cond.selects yX9_read.cls yX9_read yX9_read ∈ lw_ok := wd_835
theorem wd_833 : Cond.methodLink "UtilityBoard" (225 : Nat) ({ cls := "UtilityBoard$Reader", name := "read", desc := "([BI)I" } : MethodName) ∈ lw_ok := lw_ok_mem (tb_3 _ (List.mem_of_getElem? (i := 15) (by decide +kernel))) rfl
theorem cv_X11_225 : CVW RX11 225 yX9_read.cls yX9_read cX9_read 4 (some .int) 2 := ⟨wd_833, wm_X9_read, ws_X9_read, wi_X9_read, wc_X9_read, wn_X9_read, wp_X9_read⟩
theorem wd_978 : Cond.code ({ cls := "UtilityBoard$Order", name := "<init>", desc := "(IIILUtilityBoard$Reader;)V" } : MethodName) prog_9_method_1_code (5 : Nat) none ∈ lw_ok := lw_ok_mem (tb_3 _ (List.mem_of_getElem? (i := 160) rfl)) rfl
theorem wc_X7_init : Cond.code yX7_init cX7_init 5 none ∈ lw_ok := wd_978
theorem wd_122 : Cond.initialized "UtilityBoard$Order" ∈ lw_ok := lw_ok_mem (tb_0 _ (List.mem_of_getElem? (i := 24) (by decide +kernel))) rfl
theorem wi_X7_init : Cond.initialized yX7_init.cls ∈ lw_ok := wd_122
theorem wn_X7_init : notMH yX7_init := ⟨by decide, by decide⟩
theorem wp_X7_init : (parseMethodDescriptor yX7_init.desc).map (fun d => d.parameters.length) = some 4 := by decide +kernel
theorem wd_977 : Cond.instanceMethod ({ cls := "UtilityBoard$Order", name := "<init>", desc := "(IIILUtilityBoard$Reader;)V" } : MethodName) ∈ lw_ok := lw_ok_mem (tb_3 _ (List.mem_of_getElem? (i := 159) (by decide +kernel))) rfl
theorem wm_X7_init : Cond.instanceMethod yX7_init ∈ lw_ok := wd_977
theorem wd_976 : Cond.methodLink "UtilityBoard" (231 : Nat) ({ cls := "UtilityBoard$Order", name := "<init>", desc := "(IIILUtilityBoard$Reader;)V" } : MethodName) ∈ lw_ok := lw_ok_mem (tb_3 _ (List.mem_of_getElem? (i := 158) (by decide +kernel))) rfl
theorem ci_X11_231 : CIW RX11 231 yX7_init cX7_init 5 4 := ⟨wd_976, wm_X7_init, wi_X7_init, wc_X7_init, rfl, wn_X7_init, wp_X7_init⟩
theorem wd_1036 : Cond.code ({ cls := "java/lang/String", name := "charAt", desc := "(I)C" } : MethodName) prog_21_method_56_code (2 : Nat) (Option.some .char) ∈ lw_ok := lw_ok_mem (tb_3 _ (List.mem_of_getElem? (i := 218) rfl)) rfl
theorem wc_J0_charAt_5068e : Cond.code yJ0_charAt_5068e cJ0_charAt_5068e 2 (some .char) ∈ lw_ok := wd_1036
theorem wd_118 : Cond.initialized "java/lang/String" ∈ lw_ok := lw_ok_mem (tb_0 _ (List.mem_of_getElem? (i := 20) (by decide +kernel))) rfl
theorem wi_J0_charAt_5068e : Cond.initialized yJ0_charAt_5068e.cls ∈ lw_ok := wd_118
theorem wn_J0_charAt_5068e : notMH yJ0_charAt_5068e := ⟨by decide, by decide⟩
theorem wp_J0_charAt_5068e : (parseMethodDescriptor yJ0_charAt_5068e.desc).map (fun d => d.parameters.length) = some 1 := by decide +kernel
theorem wd_1034 : Cond.instanceMethod ({ cls := "java/lang/String", name := "charAt", desc := "(I)C" } : MethodName) ∈ lw_ok := lw_ok_mem (tb_3 _ (List.mem_of_getElem? (i := 216) (by decide +kernel))) rfl
theorem wm_J0_charAt_5068e : Cond.instanceMethod yJ0_charAt_5068e ∈ lw_ok := wd_1034
theorem wd_1035 : Cond.selects "java/lang/String" ({ cls := "java/lang/String", name := "charAt", desc := "(I)C" } : MethodName) ({ cls := "java/lang/String", name := "charAt", desc := "(I)C" } : MethodName) ∈ lw_ok := lw_ok_mem (tb_3 _ (List.mem_of_getElem? (i := 217) (by decide +kernel))) rfl
theorem ws_J0_charAt_5068e : Cond.selects yJ0_charAt_5068e.cls yJ0_charAt_5068e yJ0_charAt_5068e ∈ lw_ok := wd_1035
theorem wd_1033 : Cond.methodLink "UtilityBoard" (236 : Nat) ({ cls := "java/lang/String", name := "charAt", desc := "(I)C" } : MethodName) ∈ lw_ok := lw_ok_mem (tb_3 _ (List.mem_of_getElem? (i := 215) (by decide +kernel))) rfl
theorem cv_X11_236 : CVW RX11 236 yJ0_charAt_5068e.cls yJ0_charAt_5068e cJ0_charAt_5068e 2 (some .char) 1 := ⟨wd_1033, wm_J0_charAt_5068e, ws_J0_charAt_5068e, wi_J0_charAt_5068e, wc_J0_charAt_5068e, wn_J0_charAt_5068e, wp_J0_charAt_5068e⟩
theorem wd_706 : Cond.code ({ cls := "UtilityBoard", name := "findThing", desc := "(I)LUtilityBoard$Thing;" } : MethodName) prog_1_method_44_code (2 : Nat) (Option.some (.object "UtilityBoard$Thing")) ∈ lw_ok := lw_ok_mem (tb_2 _ (List.mem_of_getElem? (i := 128) rfl)) rfl
theorem wc_X11_findThing : Cond.code yX11_findThing cX11_findThing 2 (some (.object "UtilityBoard$Thing")) ∈ lw_ok := wd_706
theorem wi_X11_findThing : Cond.initialized yX11_findThing.cls ∈ lw_ok := wd_99
theorem wn_X11_findThing : notMH yX11_findThing := ⟨by decide, by decide⟩
theorem wp_X11_findThing : (parseMethodDescriptor yX11_findThing.desc).map (fun d => d.parameters.length) = some 1 := by decide +kernel
theorem wd_705 : Cond.instanceMethod ({ cls := "UtilityBoard", name := "findThing", desc := "(I)LUtilityBoard$Thing;" } : MethodName) ∈ lw_ok := lw_ok_mem (tb_2 _ (List.mem_of_getElem? (i := 127) (by decide +kernel))) rfl
theorem wm_X11_findThing : Cond.instanceMethod yX11_findThing ∈ lw_ok := wd_705
theorem wd_22 : Cond.selects "UtilityBoard" ⟨"UtilityBoard", "findThing", "(I)LUtilityBoard$Thing;"⟩ ⟨"UtilityBoard", "findThing", "(I)LUtilityBoard$Thing;"⟩ ∈ lw_ok := lw_ok_mem (List.mem_append_left _ (List.mem_of_getElem? (i := 22) (by decide +kernel))) rfl
theorem ws_X11_findThing : Cond.selects yX11_findThing.cls yX11_findThing yX11_findThing ∈ lw_ok := wd_22
theorem wd_703 : Cond.methodLink "UtilityBoard" (242 : Nat) ({ cls := "UtilityBoard", name := "findThing", desc := "(I)LUtilityBoard$Thing;" } : MethodName) ∈ lw_ok := lw_ok_mem (tb_2 _ (List.mem_of_getElem? (i := 125) (by decide +kernel))) rfl
theorem cv_X11_242 : CVW RX11 242 yX11_findThing.cls yX11_findThing cX11_findThing 2 (some (.object "UtilityBoard$Thing")) 1 := ⟨wd_703, wm_X11_findThing, ws_X11_findThing, wi_X11_findThing, wc_X11_findThing, wn_X11_findThing, wp_X11_findThing⟩
theorem wd_339 : Cond.code ({ cls := "UtilityBoard$Law", name := "weigh", desc := "(III)V" } : MethodName) prog_6_method_2_code (7 : Nat) none ∈ lw_ok := lw_ok_mem (tb_1 _ (List.mem_of_getElem? (i := 1) rfl)) rfl
theorem wc_X4_weigh : Cond.code yX4_weigh cX4_weigh 7 none ∈ lw_ok := wd_339
theorem wd_104 : Cond.initialized "UtilityBoard$Law" ∈ lw_ok := lw_ok_mem (tb_0 _ (List.mem_of_getElem? (i := 6) (by decide +kernel))) rfl
theorem wi_X4_weigh : Cond.initialized yX4_weigh.cls ∈ lw_ok := wd_104
theorem wn_X4_weigh : notMH yX4_weigh := ⟨by decide, by decide⟩
theorem wp_X4_weigh : (parseMethodDescriptor yX4_weigh.desc).map (fun d => d.parameters.length) = some 3 := by decide +kernel
theorem wd_337 : Cond.instanceMethod ({ cls := "UtilityBoard$Law", name := "weigh", desc := "(III)V" } : MethodName) ∈ lw_ok := lw_ok_mem (tb_0 _ (List.mem_of_getElem? (i := 239) (by decide +kernel))) rfl
theorem wm_X4_weigh : Cond.instanceMethod yX4_weigh ∈ lw_ok := wd_337
theorem wd_338 : Cond.selects "UtilityBoard$Law" ({ cls := "UtilityBoard$Law", name := "weigh", desc := "(III)V" } : MethodName) ({ cls := "UtilityBoard$Law", name := "weigh", desc := "(III)V" } : MethodName) ∈ lw_ok := lw_ok_mem (tb_1 _ (List.mem_of_getElem? (i := 0) (by decide +kernel))) rfl
theorem ws_X4_weigh : Cond.selects yX4_weigh.cls yX4_weigh yX4_weigh ∈ lw_ok := wd_338
theorem wd_336 : Cond.methodLink "UtilityBoard" (245 : Nat) ({ cls := "UtilityBoard$Law", name := "weigh", desc := "(III)V" } : MethodName) ∈ lw_ok := lw_ok_mem (tb_0 _ (List.mem_of_getElem? (i := 238) (by decide +kernel))) rfl
theorem cv_X11_245 : CVW RX11 245 yX4_weigh.cls yX4_weigh cX4_weigh 7 none 3 := ⟨wd_336, wm_X4_weigh, ws_X4_weigh, wi_X4_weigh, wc_X4_weigh, wn_X4_weigh, wp_X4_weigh⟩
theorem wd_366 : Cond.code ({ cls := "UtilityBoard$Law", name := "setLetters", desc := "(ILUtilityBoard$Thing;LUtilityBoard$Maker;)V" } : MethodName) prog_6_method_3_code (4 : Nat) none ∈ lw_ok := lw_ok_mem (tb_1 _ (List.mem_of_getElem? (i := 28) rfl)) rfl
theorem wc_X4_setLetters : Cond.code yX4_setLetters cX4_setLetters 4 none ∈ lw_ok := wd_366
theorem wi_X4_setLetters : Cond.initialized yX4_setLetters.cls ∈ lw_ok := wd_104
theorem wn_X4_setLetters : notMH yX4_setLetters := ⟨by decide, by decide⟩
theorem wp_X4_setLetters : (parseMethodDescriptor yX4_setLetters.desc).map (fun d => d.parameters.length) = some 3 := by decide +kernel
theorem wd_364 : Cond.instanceMethod ({ cls := "UtilityBoard$Law", name := "setLetters", desc := "(ILUtilityBoard$Thing;LUtilityBoard$Maker;)V" } : MethodName) ∈ lw_ok := lw_ok_mem (tb_1 _ (List.mem_of_getElem? (i := 26) (by decide +kernel))) rfl
theorem wm_X4_setLetters : Cond.instanceMethod yX4_setLetters ∈ lw_ok := wd_364
theorem wd_365 : Cond.selects "UtilityBoard$Law" ({ cls := "UtilityBoard$Law", name := "setLetters", desc := "(ILUtilityBoard$Thing;LUtilityBoard$Maker;)V" } : MethodName) ({ cls := "UtilityBoard$Law", name := "setLetters", desc := "(ILUtilityBoard$Thing;LUtilityBoard$Maker;)V" } : MethodName) ∈ lw_ok := lw_ok_mem (tb_1 _ (List.mem_of_getElem? (i := 27) (by decide +kernel))) rfl
theorem ws_X4_setLetters : Cond.selects yX4_setLetters.cls yX4_setLetters yX4_setLetters ∈ lw_ok := wd_365
theorem wd_363 : Cond.methodLink "UtilityBoard" (248 : Nat) ({ cls := "UtilityBoard$Law", name := "setLetters", desc := "(ILUtilityBoard$Thing;LUtilityBoard$Maker;)V" } : MethodName) ∈ lw_ok := lw_ok_mem (tb_1 _ (List.mem_of_getElem? (i := 25) (by decide +kernel))) rfl
theorem cv_X11_248 : CVW RX11 248 yX4_setLetters.cls yX4_setLetters cX4_setLetters 4 none 3 := ⟨wd_363, wm_X4_setLetters, ws_X4_setLetters, wi_X4_setLetters, wc_X4_setLetters, wn_X4_setLetters, wp_X4_setLetters⟩
theorem wd_374 : Cond.code ({ cls := "UtilityBoard$Law", name := "lastNumber", desc := "(C)I" } : MethodName) prog_6_method_4_code (5 : Nat) (Option.some .int) ∈ lw_ok := lw_ok_mem (tb_1 _ (List.mem_of_getElem? (i := 36) rfl)) rfl
theorem wc_X4_lastNumber : Cond.code yX4_lastNumber cX4_lastNumber 5 (some .int) ∈ lw_ok := wd_374
theorem wi_X4_lastNumber : Cond.initialized yX4_lastNumber.cls ∈ lw_ok := wd_104
theorem wn_X4_lastNumber : notMH yX4_lastNumber := ⟨by decide, by decide⟩
theorem wp_X4_lastNumber : (parseMethodDescriptor yX4_lastNumber.desc).map (fun d => d.parameters.length) = some 1 := by decide +kernel
theorem wd_372 : Cond.instanceMethod ({ cls := "UtilityBoard$Law", name := "lastNumber", desc := "(C)I" } : MethodName) ∈ lw_ok := lw_ok_mem (tb_1 _ (List.mem_of_getElem? (i := 34) (by decide +kernel))) rfl
theorem wm_X4_lastNumber : Cond.instanceMethod yX4_lastNumber ∈ lw_ok := wd_372
theorem wd_373 : Cond.selects "UtilityBoard$Law" ({ cls := "UtilityBoard$Law", name := "lastNumber", desc := "(C)I" } : MethodName) ({ cls := "UtilityBoard$Law", name := "lastNumber", desc := "(C)I" } : MethodName) ∈ lw_ok := lw_ok_mem (tb_1 _ (List.mem_of_getElem? (i := 35) (by decide +kernel))) rfl
theorem ws_X4_lastNumber : Cond.selects yX4_lastNumber.cls yX4_lastNumber yX4_lastNumber ∈ lw_ok := wd_373
theorem wd_371 : Cond.methodLink "UtilityBoard" (252 : Nat) ({ cls := "UtilityBoard$Law", name := "lastNumber", desc := "(C)I" } : MethodName) ∈ lw_ok := lw_ok_mem (tb_1 _ (List.mem_of_getElem? (i := 33) (by decide +kernel))) rfl
theorem cv_X11_252 : CVW RX11 252 yX4_lastNumber.cls yX4_lastNumber cX4_lastNumber 5 (some .int) 1 := ⟨wd_371, wm_X4_lastNumber, ws_X4_lastNumber, wi_X4_lastNumber, wc_X4_lastNumber, wn_X4_lastNumber, wp_X4_lastNumber⟩
theorem wd_1058 : Cond.code ({ cls := "UtilityBoard$Law", name := "lowestBar", desc := "(Z)I" } : MethodName) prog_6_method_5_code (5 : Nat) (Option.some .int) ∈ lw_ok := lw_ok_mem (tb_4 _ (List.mem_of_getElem? (i := 0) rfl)) rfl
theorem wc_X4_lowestBar : Cond.code yX4_lowestBar cX4_lowestBar 5 (some .int) ∈ lw_ok := wd_1058
theorem wi_X4_lowestBar : Cond.initialized yX4_lowestBar.cls ∈ lw_ok := wd_104
theorem wn_X4_lowestBar : notMH yX4_lowestBar := ⟨by decide, by decide⟩
theorem wp_X4_lowestBar : (parseMethodDescriptor yX4_lowestBar.desc).map (fun d => d.parameters.length) = some 1 := by decide +kernel
theorem wd_1056 : Cond.instanceMethod ({ cls := "UtilityBoard$Law", name := "lowestBar", desc := "(Z)I" } : MethodName) ∈ lw_ok := lw_ok_mem (tb_3 _ (List.mem_of_getElem? (i := 238) (by decide +kernel))) rfl
theorem wm_X4_lowestBar : Cond.instanceMethod yX4_lowestBar ∈ lw_ok := wd_1056
theorem wd_1057 : Cond.selects "UtilityBoard$Law" ({ cls := "UtilityBoard$Law", name := "lowestBar", desc := "(Z)I" } : MethodName) ({ cls := "UtilityBoard$Law", name := "lowestBar", desc := "(Z)I" } : MethodName) ∈ lw_ok := lw_ok_mem (tb_3 _ (List.mem_of_getElem? (i := 239) (by decide +kernel))) rfl
theorem ws_X4_lowestBar : Cond.selects yX4_lowestBar.cls yX4_lowestBar yX4_lowestBar ∈ lw_ok := wd_1057
theorem wd_1055 : Cond.methodLink "UtilityBoard" (256 : Nat) ({ cls := "UtilityBoard$Law", name := "lowestBar", desc := "(Z)I" } : MethodName) ∈ lw_ok := lw_ok_mem (tb_3 _ (List.mem_of_getElem? (i := 237) (by decide +kernel))) rfl
theorem cv_X11_256 : CVW RX11 256 yX4_lowestBar.cls yX4_lowestBar cX4_lowestBar 5 (some .int) 1 := ⟨wd_1055, wm_X4_lowestBar, ws_X4_lowestBar, wi_X4_lowestBar, wc_X4_lowestBar, wn_X4_lowestBar, wp_X4_lowestBar⟩
theorem wd_1066 : Cond.code ({ cls := "UtilityBoard", name := "whyNotMade", desc := "(LUtilityBoard$Maker;LUtilityBoard$Thing;IZ)I" } : MethodName) prog_1_method_56_code (6 : Nat) (Option.some .int) ∈ lw_ok := lw_ok_mem (tb_4 _ (List.mem_of_getElem? (i := 8) rfl)) rfl
theorem wc_X11_whyNotMade : Cond.code yX11_whyNotMade cX11_whyNotMade 6 (some .int) ∈ lw_ok := wd_1066
theorem wi_X11_whyNotMade : Cond.initialized yX11_whyNotMade.cls ∈ lw_ok := wd_99
theorem wn_X11_whyNotMade : notMH yX11_whyNotMade := ⟨by decide, by decide⟩
theorem wp_X11_whyNotMade : (parseMethodDescriptor yX11_whyNotMade.desc).map (fun d => d.parameters.length) = some 4 := by decide +kernel
theorem wd_1065 : Cond.instanceMethod ({ cls := "UtilityBoard", name := "whyNotMade", desc := "(LUtilityBoard$Maker;LUtilityBoard$Thing;IZ)I" } : MethodName) ∈ lw_ok := lw_ok_mem (tb_4 _ (List.mem_of_getElem? (i := 7) (by decide +kernel))) rfl
theorem wm_X11_whyNotMade : Cond.instanceMethod yX11_whyNotMade ∈ lw_ok := wd_1065
theorem wd_41 : Cond.selects "UtilityBoard" ⟨"UtilityBoard", "whyNotMade", "(LUtilityBoard$Maker;LUtilityBoard$Thing;IZ)I"⟩ ⟨"UtilityBoard", "whyNotMade", "(LUtilityBoard$Maker;LUtilityBoard$Thing;IZ)I"⟩ ∈ lw_ok := lw_ok_mem (List.mem_append_left _ (List.mem_of_getElem? (i := 41) (by decide +kernel))) rfl
theorem ws_X11_whyNotMade : Cond.selects yX11_whyNotMade.cls yX11_whyNotMade yX11_whyNotMade ∈ lw_ok := wd_41
theorem wd_1063 : Cond.methodLink "UtilityBoard" (263 : Nat) ({ cls := "UtilityBoard", name := "whyNotMade", desc := "(LUtilityBoard$Maker;LUtilityBoard$Thing;IZ)I" } : MethodName) ∈ lw_ok := lw_ok_mem (tb_4 _ (List.mem_of_getElem? (i := 5) (by decide +kernel))) rfl
theorem cv_X11_263 : CVW RX11 263 yX11_whyNotMade.cls yX11_whyNotMade cX11_whyNotMade 6 (some .int) 4 := ⟨wd_1063, wm_X11_whyNotMade, ws_X11_whyNotMade, wi_X11_whyNotMade, wc_X11_whyNotMade, wn_X11_whyNotMade, wp_X11_whyNotMade⟩
theorem wd_1069 : Cond.code ({ cls := "UtilityBoard", name := "yardsFor", desc := "(LUtilityBoard$Thing;I)I" } : MethodName) prog_1_method_50_code (2 : Nat) (Option.some .int) ∈ lw_ok := lw_ok_mem (tb_4 _ (List.mem_of_getElem? (i := 11) rfl)) rfl
theorem wc_X11_yardsFor : Cond.code yX11_yardsFor cX11_yardsFor 2 (some .int) ∈ lw_ok := wd_1069
theorem wi_X11_yardsFor : Cond.initialized yX11_yardsFor.cls ∈ lw_ok := wd_99
theorem wn_X11_yardsFor : notMH yX11_yardsFor := ⟨by decide, by decide⟩
theorem wp_X11_yardsFor : (parseMethodDescriptor yX11_yardsFor.desc).map (fun d => d.parameters.length) = some 2 := by decide +kernel
theorem wd_1068 : Cond.static ({ cls := "UtilityBoard", name := "yardsFor", desc := "(LUtilityBoard$Thing;I)I" } : MethodName) ∈ lw_ok := lw_ok_mem (tb_4 _ (List.mem_of_getElem? (i := 10) (by decide +kernel))) rfl
theorem wt_X11_yardsFor : Cond.static yX11_yardsFor ∈ lw_ok := wd_1068
theorem wd_1067 : Cond.methodLink "UtilityBoard" (273 : Nat) ({ cls := "UtilityBoard", name := "yardsFor", desc := "(LUtilityBoard$Thing;I)I" } : MethodName) ∈ lw_ok := lw_ok_mem (tb_4 _ (List.mem_of_getElem? (i := 9) (by decide +kernel))) rfl
theorem cs_X11_273 : CSW RX11 273 yX11_yardsFor cX11_yardsFor 2 (some .int) 2 := ⟨wd_1067, wt_X11_yardsFor, wi_X11_yardsFor, wc_X11_yardsFor, wn_X11_yardsFor, wp_X11_yardsFor⟩
theorem wd_1077 : Cond.code ({ cls := "UtilityBoard$Entry", name := "<init>", desc := "(IIII)V" } : MethodName) prog_5_method_1_code (5 : Nat) none ∈ lw_ok := lw_ok_mem (tb_4 _ (List.mem_of_getElem? (i := 19) rfl)) rfl
theorem wc_X3_init : Cond.code yX3_init cX3_init 5 none ∈ lw_ok := wd_1077
theorem wd_123 : Cond.initialized "UtilityBoard$Entry" ∈ lw_ok := lw_ok_mem (tb_0 _ (List.mem_of_getElem? (i := 25) (by decide +kernel))) rfl
theorem wi_X3_init : Cond.initialized yX3_init.cls ∈ lw_ok := wd_123
theorem wn_X3_init : notMH yX3_init := ⟨by decide, by decide⟩
theorem wp_X3_init : (parseMethodDescriptor yX3_init.desc).map (fun d => d.parameters.length) = some 4 := by decide +kernel
theorem wd_1076 : Cond.instanceMethod ({ cls := "UtilityBoard$Entry", name := "<init>", desc := "(IIII)V" } : MethodName) ∈ lw_ok := lw_ok_mem (tb_4 _ (List.mem_of_getElem? (i := 18) (by decide +kernel))) rfl
theorem wm_X3_init : Cond.instanceMethod yX3_init ∈ lw_ok := wd_1076
theorem wd_1075 : Cond.methodLink "UtilityBoard" (279 : Nat) ({ cls := "UtilityBoard$Entry", name := "<init>", desc := "(IIII)V" } : MethodName) ∈ lw_ok := lw_ok_mem (tb_4 _ (List.mem_of_getElem? (i := 17) (by decide +kernel))) rfl
theorem ci_X11_279 : CIW RX11 279 yX3_init cX3_init 5 4 := ⟨wd_1075, wm_X3_init, wi_X3_init, wc_X3_init, rfl, wn_X3_init, wp_X3_init⟩
theorem wd_1103 : Cond.code ({ cls := "UtilityBoard$Person", name := "<init>", desc := "(I)V" } : MethodName) prog_10_method_1_code (2 : Nat) none ∈ lw_ok := lw_ok_mem (tb_4 _ (List.mem_of_getElem? (i := 45) rfl)) rfl
theorem wc_X8_init : Cond.code yX8_init cX8_init 2 none ∈ lw_ok := wd_1103
theorem wd_124 : Cond.initialized "UtilityBoard$Person" ∈ lw_ok := lw_ok_mem (tb_0 _ (List.mem_of_getElem? (i := 26) (by decide +kernel))) rfl
theorem wi_X8_init : Cond.initialized yX8_init.cls ∈ lw_ok := wd_124
theorem wn_X8_init : notMH yX8_init := ⟨by decide, by decide⟩
theorem wp_X8_init : (parseMethodDescriptor yX8_init.desc).map (fun d => d.parameters.length) = some 1 := by decide +kernel
theorem wd_1102 : Cond.instanceMethod ({ cls := "UtilityBoard$Person", name := "<init>", desc := "(I)V" } : MethodName) ∈ lw_ok := lw_ok_mem (tb_4 _ (List.mem_of_getElem? (i := 44) (by decide +kernel))) rfl
theorem wm_X8_init : Cond.instanceMethod yX8_init ∈ lw_ok := wd_1102
theorem wd_1101 : Cond.methodLink "UtilityBoard" (282 : Nat) ({ cls := "UtilityBoard$Person", name := "<init>", desc := "(I)V" } : MethodName) ∈ lw_ok := lw_ok_mem (tb_4 _ (List.mem_of_getElem? (i := 43) (by decide +kernel))) rfl
theorem ci_X11_282 : CIW RX11 282 yX8_init cX8_init 2 1 := ⟨wd_1101, wm_X8_init, wi_X8_init, wc_X8_init, rfl, wn_X8_init, wp_X8_init⟩
theorem wd_1126 : Cond.code ({ cls := "UtilityBoard", name := "findPerson", desc := "(I)LUtilityBoard$Person;" } : MethodName) prog_1_method_47_code (2 : Nat) (Option.some (.object "UtilityBoard$Person")) ∈ lw_ok := lw_ok_mem (tb_4 _ (List.mem_of_getElem? (i := 68) rfl)) rfl
theorem wc_X11_findPerson : Cond.code yX11_findPerson cX11_findPerson 2 (some (.object "UtilityBoard$Person")) ∈ lw_ok := wd_1126
theorem wi_X11_findPerson : Cond.initialized yX11_findPerson.cls ∈ lw_ok := wd_99
theorem wn_X11_findPerson : notMH yX11_findPerson := ⟨by decide, by decide⟩
theorem wp_X11_findPerson : (parseMethodDescriptor yX11_findPerson.desc).map (fun d => d.parameters.length) = some 1 := by decide +kernel
theorem wd_1125 : Cond.instanceMethod ({ cls := "UtilityBoard", name := "findPerson", desc := "(I)LUtilityBoard$Person;" } : MethodName) ∈ lw_ok := lw_ok_mem (tb_4 _ (List.mem_of_getElem? (i := 67) (by decide +kernel))) rfl
theorem wm_X11_findPerson : Cond.instanceMethod yX11_findPerson ∈ lw_ok := wd_1125
theorem wd_42 : Cond.selects "UtilityBoard" ⟨"UtilityBoard", "findPerson", "(I)LUtilityBoard$Person;"⟩ ⟨"UtilityBoard", "findPerson", "(I)LUtilityBoard$Person;"⟩ ∈ lw_ok := lw_ok_mem (List.mem_append_left _ (List.mem_of_getElem? (i := 42) (by decide +kernel))) rfl
theorem ws_X11_findPerson : Cond.selects yX11_findPerson.cls yX11_findPerson yX11_findPerson ∈ lw_ok := wd_42
theorem wd_1123 : Cond.methodLink "UtilityBoard" (287 : Nat) ({ cls := "UtilityBoard", name := "findPerson", desc := "(I)LUtilityBoard$Person;" } : MethodName) ∈ lw_ok := lw_ok_mem (tb_4 _ (List.mem_of_getElem? (i := 65) (by decide +kernel))) rfl
theorem cv_X11_287 : CVW RX11 287 yX11_findPerson.cls yX11_findPerson cX11_findPerson 2 (some (.object "UtilityBoard$Person")) 1 := ⟨wd_1123, wm_X11_findPerson, ws_X11_findPerson, wi_X11_findPerson, wc_X11_findPerson, wn_X11_findPerson, wp_X11_findPerson⟩
theorem wd_1130 : Cond.code ({ cls := "UtilityBoard", name := "paidNow", desc := "(LUtilityBoard$Thing;)I" } : MethodName) prog_1_method_57_code (3 : Nat) (Option.some .int) ∈ lw_ok := lw_ok_mem (tb_4 _ (List.mem_of_getElem? (i := 72) rfl)) rfl
theorem wc_X11_paidNow : Cond.code yX11_paidNow cX11_paidNow 3 (some .int) ∈ lw_ok := wd_1130
theorem wi_X11_paidNow : Cond.initialized yX11_paidNow.cls ∈ lw_ok := wd_99
theorem wn_X11_paidNow : notMH yX11_paidNow := ⟨by decide, by decide⟩
theorem wp_X11_paidNow : (parseMethodDescriptor yX11_paidNow.desc).map (fun d => d.parameters.length) = some 1 := by decide +kernel
theorem wd_1129 : Cond.instanceMethod ({ cls := "UtilityBoard", name := "paidNow", desc := "(LUtilityBoard$Thing;)I" } : MethodName) ∈ lw_ok := lw_ok_mem (tb_4 _ (List.mem_of_getElem? (i := 71) (by decide +kernel))) rfl
theorem wm_X11_paidNow : Cond.instanceMethod yX11_paidNow ∈ lw_ok := wd_1129
theorem wd_43 : Cond.selects "UtilityBoard" ⟨"UtilityBoard", "paidNow", "(LUtilityBoard$Thing;)I"⟩ ⟨"UtilityBoard", "paidNow", "(LUtilityBoard$Thing;)I"⟩ ∈ lw_ok := lw_ok_mem (List.mem_append_left _ (List.mem_of_getElem? (i := 43) (by decide +kernel))) rfl
theorem ws_X11_paidNow : Cond.selects yX11_paidNow.cls yX11_paidNow yX11_paidNow ∈ lw_ok := wd_43
theorem wd_1127 : Cond.methodLink "UtilityBoard" (291 : Nat) ({ cls := "UtilityBoard", name := "paidNow", desc := "(LUtilityBoard$Thing;)I" } : MethodName) ∈ lw_ok := lw_ok_mem (tb_4 _ (List.mem_of_getElem? (i := 69) (by decide +kernel))) rfl
theorem cv_X11_291 : CVW RX11 291 yX11_paidNow.cls yX11_paidNow cX11_paidNow 3 (some .int) 1 := ⟨wd_1127, wm_X11_paidNow, ws_X11_paidNow, wi_X11_paidNow, wc_X11_paidNow, wn_X11_paidNow, wp_X11_paidNow⟩
theorem wd_1134 : Cond.code ({ cls := "UtilityBoard", name := "closeDockets", desc := "(II)V" } : MethodName) prog_1_method_58_code (5 : Nat) none ∈ lw_ok := lw_ok_mem (tb_4 _ (List.mem_of_getElem? (i := 76) rfl)) rfl
theorem wc_X11_closeDockets : Cond.code yX11_closeDockets cX11_closeDockets 5 none ∈ lw_ok := wd_1134
theorem wi_X11_closeDockets : Cond.initialized yX11_closeDockets.cls ∈ lw_ok := wd_99
theorem wn_X11_closeDockets : notMH yX11_closeDockets := ⟨by decide, by decide⟩
theorem wp_X11_closeDockets : (parseMethodDescriptor yX11_closeDockets.desc).map (fun d => d.parameters.length) = some 2 := by decide +kernel
theorem wd_1133 : Cond.instanceMethod ({ cls := "UtilityBoard", name := "closeDockets", desc := "(II)V" } : MethodName) ∈ lw_ok := lw_ok_mem (tb_4 _ (List.mem_of_getElem? (i := 75) (by decide +kernel))) rfl
theorem wm_X11_closeDockets : Cond.instanceMethod yX11_closeDockets ∈ lw_ok := wd_1133
theorem wd_44 : Cond.selects "UtilityBoard" ⟨"UtilityBoard", "closeDockets", "(II)V"⟩ ⟨"UtilityBoard", "closeDockets", "(II)V"⟩ ∈ lw_ok := lw_ok_mem (List.mem_append_left _ (List.mem_of_getElem? (i := 44) (by decide +kernel))) rfl
theorem ws_X11_closeDockets : Cond.selects yX11_closeDockets.cls yX11_closeDockets yX11_closeDockets ∈ lw_ok := wd_44
theorem wd_1131 : Cond.methodLink "UtilityBoard" (298 : Nat) ({ cls := "UtilityBoard", name := "closeDockets", desc := "(II)V" } : MethodName) ∈ lw_ok := lw_ok_mem (tb_4 _ (List.mem_of_getElem? (i := 73) (by decide +kernel))) rfl
theorem cv_X11_298 : CVW RX11 298 yX11_closeDockets.cls yX11_closeDockets cX11_closeDockets 5 none 2 := ⟨wd_1131, wm_X11_closeDockets, ws_X11_closeDockets, wi_X11_closeDockets, wc_X11_closeDockets, wn_X11_closeDockets, wp_X11_closeDockets⟩
theorem wd_1072 : Cond.code ({ cls := "UtilityBoard", name := "roundedUp", desc := "(II)I" } : MethodName) prog_1_method_49_code (2 : Nat) (Option.some .int) ∈ lw_ok := lw_ok_mem (tb_4 _ (List.mem_of_getElem? (i := 14) rfl)) rfl
theorem wc_X11_roundedUp : Cond.code yX11_roundedUp cX11_roundedUp 2 (some .int) ∈ lw_ok := wd_1072
theorem wi_X11_roundedUp : Cond.initialized yX11_roundedUp.cls ∈ lw_ok := wd_99
theorem wn_X11_roundedUp : notMH yX11_roundedUp := ⟨by decide, by decide⟩
theorem wp_X11_roundedUp : (parseMethodDescriptor yX11_roundedUp.desc).map (fun d => d.parameters.length) = some 2 := by decide +kernel
theorem wd_1071 : Cond.static ({ cls := "UtilityBoard", name := "roundedUp", desc := "(II)I" } : MethodName) ∈ lw_ok := lw_ok_mem (tb_4 _ (List.mem_of_getElem? (i := 13) (by decide +kernel))) rfl
theorem wt_X11_roundedUp : Cond.static yX11_roundedUp ∈ lw_ok := wd_1071
theorem wd_1070 : Cond.methodLink "UtilityBoard" (301 : Nat) ({ cls := "UtilityBoard", name := "roundedUp", desc := "(II)I" } : MethodName) ∈ lw_ok := lw_ok_mem (tb_4 _ (List.mem_of_getElem? (i := 12) (by decide +kernel))) rfl
theorem cs_X11_301 : CSW RX11 301 yX11_roundedUp cX11_roundedUp 2 (some .int) 2 := ⟨wd_1070, wt_X11_roundedUp, wi_X11_roundedUp, wc_X11_roundedUp, wn_X11_roundedUp, wp_X11_roundedUp⟩
theorem wd_1147 : Cond.code ({ cls := "UtilityBoard$Docket", name := "<init>", desc := "(IIII)V" } : MethodName) prog_3_method_1_code (5 : Nat) none ∈ lw_ok := lw_ok_mem (tb_4 _ (List.mem_of_getElem? (i := 89) rfl)) rfl
theorem wc_X1_init : Cond.code yX1_init cX1_init 5 none ∈ lw_ok := wd_1147
theorem wd_125 : Cond.initialized "UtilityBoard$Docket" ∈ lw_ok := lw_ok_mem (tb_0 _ (List.mem_of_getElem? (i := 27) (by decide +kernel))) rfl
theorem wi_X1_init : Cond.initialized yX1_init.cls ∈ lw_ok := wd_125
theorem wn_X1_init : notMH yX1_init := ⟨by decide, by decide⟩
theorem wp_X1_init : (parseMethodDescriptor yX1_init.desc).map (fun d => d.parameters.length) = some 4 := by decide +kernel
theorem wd_1146 : Cond.instanceMethod ({ cls := "UtilityBoard$Docket", name := "<init>", desc := "(IIII)V" } : MethodName) ∈ lw_ok := lw_ok_mem (tb_4 _ (List.mem_of_getElem? (i := 88) (by decide +kernel))) rfl
theorem wm_X1_init : Cond.instanceMethod yX1_init ∈ lw_ok := wd_1146
theorem wd_1145 : Cond.methodLink "UtilityBoard" (306 : Nat) ({ cls := "UtilityBoard$Docket", name := "<init>", desc := "(IIII)V" } : MethodName) ∈ lw_ok := lw_ok_mem (tb_4 _ (List.mem_of_getElem? (i := 87) (by decide +kernel))) rfl
theorem ci_X11_306 : CIW RX11 306 yX1_init cX1_init 5 4 := ⟨wd_1145, wm_X1_init, wi_X1_init, wc_X1_init, rfl, wn_X1_init, wp_X1_init⟩
theorem wd_1176 : Cond.code ({ cls := "UtilityBoard", name := "howManyBefore", desc := "(I)I" } : MethodName) prog_1_method_59_code (6 : Nat) (Option.some .int) ∈ lw_ok := lw_ok_mem (tb_4 _ (List.mem_of_getElem? (i := 118) rfl)) rfl
theorem wc_X11_howManyBefore : Cond.code yX11_howManyBefore cX11_howManyBefore 6 (some .int) ∈ lw_ok := wd_1176
theorem wi_X11_howManyBefore : Cond.initialized yX11_howManyBefore.cls ∈ lw_ok := wd_99
theorem wn_X11_howManyBefore : notMH yX11_howManyBefore := ⟨by decide, by decide⟩
theorem wp_X11_howManyBefore : (parseMethodDescriptor yX11_howManyBefore.desc).map (fun d => d.parameters.length) = some 1 := by decide +kernel
theorem wd_1175 : Cond.instanceMethod ({ cls := "UtilityBoard", name := "howManyBefore", desc := "(I)I" } : MethodName) ∈ lw_ok := lw_ok_mem (tb_4 _ (List.mem_of_getElem? (i := 117) (by decide +kernel))) rfl
theorem wm_X11_howManyBefore : Cond.instanceMethod yX11_howManyBefore ∈ lw_ok := wd_1175
theorem wd_45 : Cond.selects "UtilityBoard" ⟨"UtilityBoard", "howManyBefore", "(I)I"⟩ ⟨"UtilityBoard", "howManyBefore", "(I)I"⟩ ∈ lw_ok := lw_ok_mem (List.mem_append_left _ (List.mem_of_getElem? (i := 45) (by decide +kernel))) rfl
theorem ws_X11_howManyBefore : Cond.selects yX11_howManyBefore.cls yX11_howManyBefore yX11_howManyBefore ∈ lw_ok := wd_45
theorem wd_1173 : Cond.methodLink "UtilityBoard" (313 : Nat) ({ cls := "UtilityBoard", name := "howManyBefore", desc := "(I)I" } : MethodName) ∈ lw_ok := lw_ok_mem (tb_4 _ (List.mem_of_getElem? (i := 115) (by decide +kernel))) rfl
theorem cv_X11_313 : CVW RX11 313 yX11_howManyBefore.cls yX11_howManyBefore cX11_howManyBefore 6 (some .int) 1 := ⟨wd_1173, wm_X11_howManyBefore, ws_X11_howManyBefore, wi_X11_howManyBefore, wc_X11_howManyBefore, wn_X11_howManyBefore, wp_X11_howManyBefore⟩
theorem wd_1200 : Cond.code ({ cls := "UtilityBoard", name := "trulyMarked", desc := "(II)I" } : MethodName) prog_1_method_60_code (7 : Nat) (Option.some .int) ∈ lw_ok := lw_ok_mem (tb_4 _ (List.mem_of_getElem? (i := 142) rfl)) rfl
theorem wc_X11_trulyMarked : Cond.code yX11_trulyMarked cX11_trulyMarked 7 (some .int) ∈ lw_ok := wd_1200
theorem wi_X11_trulyMarked : Cond.initialized yX11_trulyMarked.cls ∈ lw_ok := wd_99
theorem wn_X11_trulyMarked : notMH yX11_trulyMarked := ⟨by decide, by decide⟩
theorem wp_X11_trulyMarked : (parseMethodDescriptor yX11_trulyMarked.desc).map (fun d => d.parameters.length) = some 2 := by decide +kernel
theorem wd_1199 : Cond.instanceMethod ({ cls := "UtilityBoard", name := "trulyMarked", desc := "(II)I" } : MethodName) ∈ lw_ok := lw_ok_mem (tb_4 _ (List.mem_of_getElem? (i := 141) (by decide +kernel))) rfl
theorem wm_X11_trulyMarked : Cond.instanceMethod yX11_trulyMarked ∈ lw_ok := wd_1199
theorem wd_46 : Cond.selects "UtilityBoard" ⟨"UtilityBoard", "trulyMarked", "(II)I"⟩ ⟨"UtilityBoard", "trulyMarked", "(II)I"⟩ ∈ lw_ok := lw_ok_mem (List.mem_append_left _ (List.mem_of_getElem? (i := 46) (by decide +kernel))) rfl
theorem ws_X11_trulyMarked : Cond.selects yX11_trulyMarked.cls yX11_trulyMarked yX11_trulyMarked ∈ lw_ok := wd_46
theorem wd_1197 : Cond.methodLink "UtilityBoard" (330 : Nat) ({ cls := "UtilityBoard", name := "trulyMarked", desc := "(II)I" } : MethodName) ∈ lw_ok := lw_ok_mem (tb_4 _ (List.mem_of_getElem? (i := 139) (by decide +kernel))) rfl
theorem cv_X11_330 : CVW RX11 330 yX11_trulyMarked.cls yX11_trulyMarked cX11_trulyMarked 7 (some .int) 2 := ⟨wd_1197, wm_X11_trulyMarked, ws_X11_trulyMarked, wi_X11_trulyMarked, wc_X11_trulyMarked, wn_X11_trulyMarked, wp_X11_trulyMarked⟩
theorem wd_1220 : Cond.code ({ cls := "UtilityBoard", name := "mayBeTold", desc := "(I)Z" } : MethodName) prog_1_method_62_code (3 : Nat) (Option.some .boolean) ∈ lw_ok := lw_ok_mem (tb_4 _ (List.mem_of_getElem? (i := 162) rfl)) rfl
theorem wc_X11_mayBeTold : Cond.code yX11_mayBeTold cX11_mayBeTold 3 (some .boolean) ∈ lw_ok := wd_1220
theorem wi_X11_mayBeTold : Cond.initialized yX11_mayBeTold.cls ∈ lw_ok := wd_99
theorem wn_X11_mayBeTold : notMH yX11_mayBeTold := ⟨by decide, by decide⟩
theorem wp_X11_mayBeTold : (parseMethodDescriptor yX11_mayBeTold.desc).map (fun d => d.parameters.length) = some 1 := by decide +kernel
theorem wd_1219 : Cond.instanceMethod ({ cls := "UtilityBoard", name := "mayBeTold", desc := "(I)Z" } : MethodName) ∈ lw_ok := lw_ok_mem (tb_4 _ (List.mem_of_getElem? (i := 161) (by decide +kernel))) rfl
theorem wm_X11_mayBeTold : Cond.instanceMethod yX11_mayBeTold ∈ lw_ok := wd_1219
theorem wd_47 : Cond.selects "UtilityBoard" ⟨"UtilityBoard", "mayBeTold", "(I)Z"⟩ ⟨"UtilityBoard", "mayBeTold", "(I)Z"⟩ ∈ lw_ok := lw_ok_mem (List.mem_append_left _ (List.mem_of_getElem? (i := 47) (by decide +kernel))) rfl
theorem ws_X11_mayBeTold : Cond.selects yX11_mayBeTold.cls yX11_mayBeTold yX11_mayBeTold ∈ lw_ok := wd_47
theorem wd_1217 : Cond.methodLink "UtilityBoard" (339 : Nat) ({ cls := "UtilityBoard", name := "mayBeTold", desc := "(I)Z" } : MethodName) ∈ lw_ok := lw_ok_mem (tb_4 _ (List.mem_of_getElem? (i := 159) (by decide +kernel))) rfl
theorem cv_X11_339 : CVW RX11 339 yX11_mayBeTold.cls yX11_mayBeTold cX11_mayBeTold 3 (some .boolean) 1 := ⟨wd_1217, wm_X11_mayBeTold, ws_X11_mayBeTold, wi_X11_mayBeTold, wc_X11_mayBeTold, wn_X11_mayBeTold, wp_X11_mayBeTold⟩
theorem wd_1225 : Cond.code ({ cls := "UtilityBoard", name := "handsToDo", desc := "(III)I" } : MethodName) prog_1_method_64_code (11 : Nat) (Option.some .int) ∈ lw_ok := lw_ok_mem (tb_4 _ (List.mem_of_getElem? (i := 167) rfl)) rfl
theorem wc_X11_handsToDo : Cond.code yX11_handsToDo cX11_handsToDo 11 (some .int) ∈ lw_ok := wd_1225
theorem wi_X11_handsToDo : Cond.initialized yX11_handsToDo.cls ∈ lw_ok := wd_99
theorem wn_X11_handsToDo : notMH yX11_handsToDo := ⟨by decide, by decide⟩
theorem wp_X11_handsToDo : (parseMethodDescriptor yX11_handsToDo.desc).map (fun d => d.parameters.length) = some 3 := by decide +kernel
theorem wd_1224 : Cond.instanceMethod ({ cls := "UtilityBoard", name := "handsToDo", desc := "(III)I" } : MethodName) ∈ lw_ok := lw_ok_mem (tb_4 _ (List.mem_of_getElem? (i := 166) (by decide +kernel))) rfl
theorem wm_X11_handsToDo : Cond.instanceMethod yX11_handsToDo ∈ lw_ok := wd_1224
theorem wd_48 : Cond.selects "UtilityBoard" ⟨"UtilityBoard", "handsToDo", "(III)I"⟩ ⟨"UtilityBoard", "handsToDo", "(III)I"⟩ ∈ lw_ok := lw_ok_mem (List.mem_append_left _ (List.mem_of_getElem? (i := 48) (by decide +kernel))) rfl
theorem ws_X11_handsToDo : Cond.selects yX11_handsToDo.cls yX11_handsToDo yX11_handsToDo ∈ lw_ok := wd_48
theorem wd_1222 : Cond.methodLink "UtilityBoard" (342 : Nat) ({ cls := "UtilityBoard", name := "handsToDo", desc := "(III)I" } : MethodName) ∈ lw_ok := lw_ok_mem (tb_4 _ (List.mem_of_getElem? (i := 164) (by decide +kernel))) rfl
theorem cv_X11_342 : CVW RX11 342 yX11_handsToDo.cls yX11_handsToDo cX11_handsToDo 11 (some .int) 3 := ⟨wd_1222, wm_X11_handsToDo, ws_X11_handsToDo, wi_X11_handsToDo, wc_X11_handsToDo, wn_X11_handsToDo, wp_X11_handsToDo⟩
theorem wd_1233 : Cond.code ({ cls := "UtilityBoard", name := "isInTown", desc := "(II)Z" } : MethodName) prog_1_method_63_code (4 : Nat) (Option.some .boolean) ∈ lw_ok := lw_ok_mem (tb_4 _ (List.mem_of_getElem? (i := 175) rfl)) rfl
theorem wc_X11_isInTown : Cond.code yX11_isInTown cX11_isInTown 4 (some .boolean) ∈ lw_ok := wd_1233
theorem wi_X11_isInTown : Cond.initialized yX11_isInTown.cls ∈ lw_ok := wd_99
theorem wn_X11_isInTown : notMH yX11_isInTown := ⟨by decide, by decide⟩
theorem wp_X11_isInTown : (parseMethodDescriptor yX11_isInTown.desc).map (fun d => d.parameters.length) = some 2 := by decide +kernel
theorem wd_1232 : Cond.instanceMethod ({ cls := "UtilityBoard", name := "isInTown", desc := "(II)Z" } : MethodName) ∈ lw_ok := lw_ok_mem (tb_4 _ (List.mem_of_getElem? (i := 174) (by decide +kernel))) rfl
theorem wm_X11_isInTown : Cond.instanceMethod yX11_isInTown ∈ lw_ok := wd_1232
theorem wd_49 : Cond.selects "UtilityBoard" ⟨"UtilityBoard", "isInTown", "(II)Z"⟩ ⟨"UtilityBoard", "isInTown", "(II)Z"⟩ ∈ lw_ok := lw_ok_mem (List.mem_append_left _ (List.mem_of_getElem? (i := 49) (by decide +kernel))) rfl
theorem ws_X11_isInTown : Cond.selects yX11_isInTown.cls yX11_isInTown yX11_isInTown ∈ lw_ok := wd_49
theorem wd_1230 : Cond.methodLink "UtilityBoard" (345 : Nat) ({ cls := "UtilityBoard", name := "isInTown", desc := "(II)Z" } : MethodName) ∈ lw_ok := lw_ok_mem (tb_4 _ (List.mem_of_getElem? (i := 172) (by decide +kernel))) rfl
theorem cv_X11_345 : CVW RX11 345 yX11_isInTown.cls yX11_isInTown cX11_isInTown 4 (some .boolean) 2 := ⟨wd_1230, wm_X11_isInTown, ws_X11_isInTown, wi_X11_isInTown, wc_X11_isInTown, wn_X11_isInTown, wp_X11_isInTown⟩
theorem wd_606 : Cond.code ({ cls := "java/lang/Integer", name := "bitCount", desc := "(I)I" } : MethodName) prog_18_method_49_code (1 : Nat) (Option.some .int) ∈ lw_ok := lw_ok_mem (tb_2 _ (List.mem_of_getElem? (i := 28) rfl)) rfl
theorem wc_J6_bitCount_0f7a4 : Cond.code yJ6_bitCount_0f7a4 cJ6_bitCount_0f7a4 1 (some .int) ∈ lw_ok := wd_606
theorem wd_115 : Cond.initialized "java/lang/Integer" ∈ lw_ok := lw_ok_mem (tb_0 _ (List.mem_of_getElem? (i := 17) (by decide +kernel))) rfl
theorem wi_J6_bitCount_0f7a4 : Cond.initialized yJ6_bitCount_0f7a4.cls ∈ lw_ok := wd_115
theorem wn_J6_bitCount_0f7a4 : notMH yJ6_bitCount_0f7a4 := ⟨by decide, by decide⟩
theorem wp_J6_bitCount_0f7a4 : (parseMethodDescriptor yJ6_bitCount_0f7a4.desc).map (fun d => d.parameters.length) = some 1 := by decide +kernel
theorem wd_605 : Cond.static ({ cls := "java/lang/Integer", name := "bitCount", desc := "(I)I" } : MethodName) ∈ lw_ok := lw_ok_mem (tb_2 _ (List.mem_of_getElem? (i := 27) (by decide +kernel))) rfl
theorem wt_J6_bitCount_0f7a4 : Cond.static yJ6_bitCount_0f7a4 ∈ lw_ok := wd_605
theorem wd_1221 : Cond.methodLink "UtilityBoard" (348 : Nat) ({ cls := "java/lang/Integer", name := "bitCount", desc := "(I)I" } : MethodName) ∈ lw_ok := lw_ok_mem (tb_4 _ (List.mem_of_getElem? (i := 163) (by decide +kernel))) rfl
theorem cs_X11_348 : CSW RX11 348 yJ6_bitCount_0f7a4 cJ6_bitCount_0f7a4 1 (some .int) 1 := ⟨wd_1221, wt_J6_bitCount_0f7a4, wi_J6_bitCount_0f7a4, wc_J6_bitCount_0f7a4, wn_J6_bitCount_0f7a4, wp_J6_bitCount_0f7a4⟩
theorem wd_1242 : Cond.code ({ cls := "UtilityBoard$Thing", name := "stuffCost", desc := "()I" } : MethodName) prog_12_method_5_code (1 : Nat) (Option.some .int) ∈ lw_ok := lw_ok_mem (tb_4 _ (List.mem_of_getElem? (i := 184) rfl)) rfl
theorem wc_X10_stuffCost : Cond.code yX10_stuffCost cX10_stuffCost 1 (some .int) ∈ lw_ok := wd_1242
theorem wi_X10_stuffCost : Cond.initialized yX10_stuffCost.cls ∈ lw_ok := wd_116
theorem wn_X10_stuffCost : notMH yX10_stuffCost := ⟨by decide, by decide⟩
theorem wp_X10_stuffCost : (parseMethodDescriptor yX10_stuffCost.desc).map (fun d => d.parameters.length) = some 0 := by decide +kernel
theorem wd_1240 : Cond.instanceMethod ({ cls := "UtilityBoard$Thing", name := "stuffCost", desc := "()I" } : MethodName) ∈ lw_ok := lw_ok_mem (tb_4 _ (List.mem_of_getElem? (i := 182) (by decide +kernel))) rfl
theorem wm_X10_stuffCost : Cond.instanceMethod yX10_stuffCost ∈ lw_ok := wd_1240
theorem wd_1241 : Cond.selects "UtilityBoard$Thing" ({ cls := "UtilityBoard$Thing", name := "stuffCost", desc := "()I" } : MethodName) ({ cls := "UtilityBoard$Thing", name := "stuffCost", desc := "()I" } : MethodName) ∈ lw_ok := lw_ok_mem (tb_4 _ (List.mem_of_getElem? (i := 183) (by decide +kernel))) rfl
theorem ws_X10_stuffCost : Cond.selects yX10_stuffCost.cls yX10_stuffCost yX10_stuffCost ∈ lw_ok := wd_1241
theorem wd_1239 : Cond.methodLink "UtilityBoard" (354 : Nat) ({ cls := "UtilityBoard$Thing", name := "stuffCost", desc := "()I" } : MethodName) ∈ lw_ok := lw_ok_mem (tb_4 _ (List.mem_of_getElem? (i := 181) (by decide +kernel))) rfl
theorem cv_X11_354 : CVW RX11 354 yX10_stuffCost.cls yX10_stuffCost cX10_stuffCost 1 (some .int) 0 := ⟨wd_1239, wm_X10_stuffCost, ws_X10_stuffCost, wi_X10_stuffCost, wc_X10_stuffCost, wn_X10_stuffCost, wp_X10_stuffCost⟩
theorem wd_1251 : Cond.code ({ cls := "UtilityBoard", name := "isLetToSomeMaker", desc := "(LUtilityBoard$Thing;)Z" } : MethodName) prog_1_method_65_code (3 : Nat) (Option.some .boolean) ∈ lw_ok := lw_ok_mem (tb_4 _ (List.mem_of_getElem? (i := 193) rfl)) rfl
theorem wc_X11_isLetToSomeMaker : Cond.code yX11_isLetToSomeMaker cX11_isLetToSomeMaker 3 (some .boolean) ∈ lw_ok := wd_1251
theorem wi_X11_isLetToSomeMaker : Cond.initialized yX11_isLetToSomeMaker.cls ∈ lw_ok := wd_99
theorem wn_X11_isLetToSomeMaker : notMH yX11_isLetToSomeMaker := ⟨by decide, by decide⟩
theorem wp_X11_isLetToSomeMaker : (parseMethodDescriptor yX11_isLetToSomeMaker.desc).map (fun d => d.parameters.length) = some 1 := by decide +kernel
theorem wd_1250 : Cond.instanceMethod ({ cls := "UtilityBoard", name := "isLetToSomeMaker", desc := "(LUtilityBoard$Thing;)Z" } : MethodName) ∈ lw_ok := lw_ok_mem (tb_4 _ (List.mem_of_getElem? (i := 192) (by decide +kernel))) rfl
theorem wm_X11_isLetToSomeMaker : Cond.instanceMethod yX11_isLetToSomeMaker ∈ lw_ok := wd_1250
theorem wd_50 : Cond.selects "UtilityBoard" ⟨"UtilityBoard", "isLetToSomeMaker", "(LUtilityBoard$Thing;)Z"⟩ ⟨"UtilityBoard", "isLetToSomeMaker", "(LUtilityBoard$Thing;)Z"⟩ ∈ lw_ok := lw_ok_mem (List.mem_append_left _ (List.mem_of_getElem? (i := 50) (by decide +kernel))) rfl
theorem ws_X11_isLetToSomeMaker : Cond.selects yX11_isLetToSomeMaker.cls yX11_isLetToSomeMaker yX11_isLetToSomeMaker ∈ lw_ok := wd_50
theorem wd_1248 : Cond.methodLink "UtilityBoard" (363 : Nat) ({ cls := "UtilityBoard", name := "isLetToSomeMaker", desc := "(LUtilityBoard$Thing;)Z" } : MethodName) ∈ lw_ok := lw_ok_mem (tb_4 _ (List.mem_of_getElem? (i := 190) (by decide +kernel))) rfl
theorem cv_X11_363 : CVW RX11 363 yX11_isLetToSomeMaker.cls yX11_isLetToSomeMaker cX11_isLetToSomeMaker 3 (some .boolean) 1 := ⟨wd_1248, wm_X11_isLetToSomeMaker, ws_X11_isLetToSomeMaker, wi_X11_isLetToSomeMaker, wc_X11_isLetToSomeMaker, wn_X11_isLetToSomeMaker, wp_X11_isLetToSomeMaker⟩
theorem wd_1259 : Cond.code ({ cls := "UtilityBoard", name := "firstWrong", desc := "(I)I" } : MethodName) prog_1_method_66_code (8 : Nat) (Option.some .int) ∈ lw_ok := lw_ok_mem (tb_4 _ (List.mem_of_getElem? (i := 201) rfl)) rfl
theorem wc_X11_firstWrong : Cond.code yX11_firstWrong cX11_firstWrong 8 (some .int) ∈ lw_ok := wd_1259
theorem wi_X11_firstWrong : Cond.initialized yX11_firstWrong.cls ∈ lw_ok := wd_99
theorem wn_X11_firstWrong : notMH yX11_firstWrong := ⟨by decide, by decide⟩
theorem wp_X11_firstWrong : (parseMethodDescriptor yX11_firstWrong.desc).map (fun d => d.parameters.length) = some 1 := by decide +kernel
theorem wd_1258 : Cond.instanceMethod ({ cls := "UtilityBoard", name := "firstWrong", desc := "(I)I" } : MethodName) ∈ lw_ok := lw_ok_mem (tb_4 _ (List.mem_of_getElem? (i := 200) (by decide +kernel))) rfl
theorem wm_X11_firstWrong : Cond.instanceMethod yX11_firstWrong ∈ lw_ok := wd_1258
theorem wd_51 : Cond.selects "UtilityBoard" ⟨"UtilityBoard", "firstWrong", "(I)I"⟩ ⟨"UtilityBoard", "firstWrong", "(I)I"⟩ ∈ lw_ok := lw_ok_mem (List.mem_append_left _ (List.mem_of_getElem? (i := 51) (by decide +kernel))) rfl
theorem ws_X11_firstWrong : Cond.selects yX11_firstWrong.cls yX11_firstWrong yX11_firstWrong ∈ lw_ok := wd_51
theorem wd_1256 : Cond.methodLink "UtilityBoard" (367 : Nat) ({ cls := "UtilityBoard", name := "firstWrong", desc := "(I)I" } : MethodName) ∈ lw_ok := lw_ok_mem (tb_4 _ (List.mem_of_getElem? (i := 198) (by decide +kernel))) rfl
theorem cv_X11_367 : CVW RX11 367 yX11_firstWrong.cls yX11_firstWrong cX11_firstWrong 8 (some .int) 1 := ⟨wd_1256, wm_X11_firstWrong, ws_X11_firstWrong, wi_X11_firstWrong, wc_X11_firstWrong, wn_X11_firstWrong, wp_X11_firstWrong⟩
theorem wd_1275 : Cond.code ({ cls := "UtilityBoard", name := "plainCount", desc := "(I)I" } : MethodName) prog_1_method_41_code (2 : Nat) (Option.some .int) ∈ lw_ok := lw_ok_mem (tb_4 _ (List.mem_of_getElem? (i := 217) rfl)) rfl
theorem wc_X11_plainCount : Cond.code yX11_plainCount cX11_plainCount 2 (some .int) ∈ lw_ok := wd_1275
theorem wi_X11_plainCount : Cond.initialized yX11_plainCount.cls ∈ lw_ok := wd_99
theorem wn_X11_plainCount : notMH yX11_plainCount := ⟨by decide, by decide⟩
theorem wp_X11_plainCount : (parseMethodDescriptor yX11_plainCount.desc).map (fun d => d.parameters.length) = some 1 := by decide +kernel
theorem wd_1274 : Cond.instanceMethod ({ cls := "UtilityBoard", name := "plainCount", desc := "(I)I" } : MethodName) ∈ lw_ok := lw_ok_mem (tb_4 _ (List.mem_of_getElem? (i := 216) (by decide +kernel))) rfl
theorem wm_X11_plainCount : Cond.instanceMethod yX11_plainCount ∈ lw_ok := wd_1274
theorem wd_53 : Cond.selects "UtilityBoard" ⟨"UtilityBoard", "plainCount", "(I)I"⟩ ⟨"UtilityBoard", "plainCount", "(I)I"⟩ ∈ lw_ok := lw_ok_mem (List.mem_append_left _ (List.mem_of_getElem? (i := 53) (by decide +kernel))) rfl
theorem ws_X11_plainCount : Cond.selects yX11_plainCount.cls yX11_plainCount yX11_plainCount ∈ lw_ok := wd_53
theorem wd_1272 : Cond.methodLink "UtilityBoard" (373 : Nat) ({ cls := "UtilityBoard", name := "plainCount", desc := "(I)I" } : MethodName) ∈ lw_ok := lw_ok_mem (tb_4 _ (List.mem_of_getElem? (i := 214) (by decide +kernel))) rfl
theorem cv_X11_373 : CVW RX11 373 yX11_plainCount.cls yX11_plainCount cX11_plainCount 2 (some .int) 1 := ⟨wd_1272, wm_X11_plainCount, ws_X11_plainCount, wi_X11_plainCount, wc_X11_plainCount, wn_X11_plainCount, wp_X11_plainCount⟩
theorem wd_1180 : Cond.code ({ cls := "UtilityBoard$Docket", name := "goesBefore", desc := "(LUtilityBoard$Docket;Z)Z" } : MethodName) prog_3_method_2_code (3 : Nat) (Option.some .boolean) ∈ lw_ok := lw_ok_mem (tb_4 _ (List.mem_of_getElem? (i := 122) rfl)) rfl
theorem wc_X1_goesBefore : Cond.code yX1_goesBefore cX1_goesBefore 3 (some .boolean) ∈ lw_ok := wd_1180
theorem wi_X1_goesBefore : Cond.initialized yX1_goesBefore.cls ∈ lw_ok := wd_125
theorem wn_X1_goesBefore : notMH yX1_goesBefore := ⟨by decide, by decide⟩
theorem wp_X1_goesBefore : (parseMethodDescriptor yX1_goesBefore.desc).map (fun d => d.parameters.length) = some 2 := by decide +kernel
theorem wd_1178 : Cond.instanceMethod ({ cls := "UtilityBoard$Docket", name := "goesBefore", desc := "(LUtilityBoard$Docket;Z)Z" } : MethodName) ∈ lw_ok := lw_ok_mem (tb_4 _ (List.mem_of_getElem? (i := 120) (by decide +kernel))) rfl
theorem wm_X1_goesBefore : Cond.instanceMethod yX1_goesBefore ∈ lw_ok := wd_1178
theorem wd_1179 : Cond.selects "UtilityBoard$Docket" ({ cls := "UtilityBoard$Docket", name := "goesBefore", desc := "(LUtilityBoard$Docket;Z)Z" } : MethodName) ({ cls := "UtilityBoard$Docket", name := "goesBefore", desc := "(LUtilityBoard$Docket;Z)Z" } : MethodName) ∈ lw_ok := lw_ok_mem (tb_4 _ (List.mem_of_getElem? (i := 121) (by decide +kernel))) rfl
theorem ws_X1_goesBefore : Cond.selects yX1_goesBefore.cls yX1_goesBefore yX1_goesBefore ∈ lw_ok := wd_1179
theorem wd_1177 : Cond.methodLink "UtilityBoard" (388 : Nat) ({ cls := "UtilityBoard$Docket", name := "goesBefore", desc := "(LUtilityBoard$Docket;Z)Z" } : MethodName) ∈ lw_ok := lw_ok_mem (tb_4 _ (List.mem_of_getElem? (i := 119) (by decide +kernel))) rfl
theorem cv_X11_388 : CVW RX11 388 yX1_goesBefore.cls yX1_goesBefore cX1_goesBefore 3 (some .boolean) 2 := ⟨wd_1177, wm_X1_goesBefore, ws_X1_goesBefore, wi_X1_goesBefore, wc_X1_goesBefore, wn_X1_goesBefore, wp_X1_goesBefore⟩
theorem wd_1263 : Cond.code ({ cls := "UtilityBoard", name := "numberOnTape", desc := "(I)I" } : MethodName) prog_1_method_54_code (4 : Nat) (Option.some .int) ∈ lw_ok := lw_ok_mem (tb_4 _ (List.mem_of_getElem? (i := 205) rfl)) rfl
theorem wc_X11_numberOnTape : Cond.code yX11_numberOnTape cX11_numberOnTape 4 (some .int) ∈ lw_ok := wd_1263
theorem wi_X11_numberOnTape : Cond.initialized yX11_numberOnTape.cls ∈ lw_ok := wd_99
theorem wn_X11_numberOnTape : notMH yX11_numberOnTape := ⟨by decide, by decide⟩
theorem wp_X11_numberOnTape : (parseMethodDescriptor yX11_numberOnTape.desc).map (fun d => d.parameters.length) = some 1 := by decide +kernel
theorem wd_1262 : Cond.instanceMethod ({ cls := "UtilityBoard", name := "numberOnTape", desc := "(I)I" } : MethodName) ∈ lw_ok := lw_ok_mem (tb_4 _ (List.mem_of_getElem? (i := 204) (by decide +kernel))) rfl
theorem wm_X11_numberOnTape : Cond.instanceMethod yX11_numberOnTape ∈ lw_ok := wd_1262
theorem wd_52 : Cond.selects "UtilityBoard" ⟨"UtilityBoard", "numberOnTape", "(I)I"⟩ ⟨"UtilityBoard", "numberOnTape", "(I)I"⟩ ∈ lw_ok := lw_ok_mem (List.mem_append_left _ (List.mem_of_getElem? (i := 52) (by decide +kernel))) rfl
theorem ws_X11_numberOnTape : Cond.selects yX11_numberOnTape.cls yX11_numberOnTape yX11_numberOnTape ∈ lw_ok := wd_52
theorem wd_1260 : Cond.methodLink "UtilityBoard" (395 : Nat) ({ cls := "UtilityBoard", name := "numberOnTape", desc := "(I)I" } : MethodName) ∈ lw_ok := lw_ok_mem (tb_4 _ (List.mem_of_getElem? (i := 202) (by decide +kernel))) rfl
theorem cv_X11_395 : CVW RX11 395 yX11_numberOnTape.cls yX11_numberOnTape cX11_numberOnTape 4 (some .int) 1 := ⟨wd_1260, wm_X11_numberOnTape, ws_X11_numberOnTape, wi_X11_numberOnTape, wc_X11_numberOnTape, wn_X11_numberOnTape, wp_X11_numberOnTape⟩
theorem wd_588 : Cond.code ({ cls := "UtilityBoard$Drawing", name := "findCuts", desc := "()V" } : MethodName) prog_4_method_7_code (4 : Nat) none ∈ lw_ok := lw_ok_mem (tb_2 _ (List.mem_of_getElem? (i := 10) rfl)) rfl
theorem wc_X2_findCuts : Cond.code yX2_findCuts cX2_findCuts 4 none ∈ lw_ok := wd_588
theorem wi_X2_findCuts : Cond.initialized yX2_findCuts.cls ∈ lw_ok := wd_114
theorem wn_X2_findCuts : notMH yX2_findCuts := ⟨by decide, by decide⟩
theorem wp_X2_findCuts : (parseMethodDescriptor yX2_findCuts.desc).map (fun d => d.parameters.length) = some 0 := by decide +kernel
theorem wd_587 : Cond.instanceMethod ({ cls := "UtilityBoard$Drawing", name := "findCuts", desc := "()V" } : MethodName) ∈ lw_ok := lw_ok_mem (tb_2 _ (List.mem_of_getElem? (i := 9) (by decide +kernel))) rfl
theorem wm_X2_findCuts : Cond.instanceMethod yX2_findCuts ∈ lw_ok := wd_587
theorem wd_12 : Cond.selects "UtilityBoard$Drawing" ⟨"UtilityBoard$Drawing", "findCuts", "()V"⟩ ⟨"UtilityBoard$Drawing", "findCuts", "()V"⟩ ∈ lw_ok := lw_ok_mem (List.mem_append_left _ (List.mem_of_getElem? (i := 12) (by decide +kernel))) rfl
theorem ws_X2_findCuts : Cond.selects yX2_findCuts.cls yX2_findCuts yX2_findCuts ∈ lw_ok := wd_12
theorem wd_585 : Cond.methodLink "UtilityBoard$Drawing" (66 : Nat) ({ cls := "UtilityBoard$Drawing", name := "findCuts", desc := "()V" } : MethodName) ∈ lw_ok := lw_ok_mem (tb_2 _ (List.mem_of_getElem? (i := 7) (by decide +kernel))) rfl
theorem cv_X2_66 : CVW RX2 66 yX2_findCuts.cls yX2_findCuts cX2_findCuts 4 none 0 := ⟨wd_585, wm_X2_findCuts, ws_X2_findCuts, wi_X2_findCuts, wc_X2_findCuts, wn_X2_findCuts, wp_X2_findCuts⟩
theorem wd_613 : Cond.code ({ cls := "UtilityBoard$Drawing", name := "takeFromCuts", desc := "(II)V" } : MethodName) prog_4_method_11_code (4 : Nat) none ∈ lw_ok := lw_ok_mem (tb_2 _ (List.mem_of_getElem? (i := 35) rfl)) rfl
theorem wc_X2_takeFromCuts : Cond.code yX2_takeFromCuts cX2_takeFromCuts 4 none ∈ lw_ok := wd_613
theorem wi_X2_takeFromCuts : Cond.initialized yX2_takeFromCuts.cls ∈ lw_ok := wd_114
theorem wn_X2_takeFromCuts : notMH yX2_takeFromCuts := ⟨by decide, by decide⟩
theorem wp_X2_takeFromCuts : (parseMethodDescriptor yX2_takeFromCuts.desc).map (fun d => d.parameters.length) = some 2 := by decide +kernel
theorem wd_612 : Cond.instanceMethod ({ cls := "UtilityBoard$Drawing", name := "takeFromCuts", desc := "(II)V" } : MethodName) ∈ lw_ok := lw_ok_mem (tb_2 _ (List.mem_of_getElem? (i := 34) (by decide +kernel))) rfl
theorem wm_X2_takeFromCuts : Cond.instanceMethod yX2_takeFromCuts ∈ lw_ok := wd_612
theorem wd_16 : Cond.selects "UtilityBoard$Drawing" ⟨"UtilityBoard$Drawing", "takeFromCuts", "(II)V"⟩ ⟨"UtilityBoard$Drawing", "takeFromCuts", "(II)V"⟩ ∈ lw_ok := lw_ok_mem (List.mem_append_left _ (List.mem_of_getElem? (i := 16) (by decide +kernel))) rfl
theorem ws_X2_takeFromCuts : Cond.selects yX2_takeFromCuts.cls yX2_takeFromCuts yX2_takeFromCuts ∈ lw_ok := wd_16
theorem wd_610 : Cond.methodLink "UtilityBoard$Drawing" (72 : Nat) ({ cls := "UtilityBoard$Drawing", name := "takeFromCuts", desc := "(II)V" } : MethodName) ∈ lw_ok := lw_ok_mem (tb_2 _ (List.mem_of_getElem? (i := 32) (by decide +kernel))) rfl
theorem cv_X2_72 : CVW RX2 72 yX2_takeFromCuts.cls yX2_takeFromCuts cX2_takeFromCuts 4 none 2 := ⟨wd_610, wm_X2_takeFromCuts, ws_X2_takeFromCuts, wi_X2_takeFromCuts, wc_X2_takeFromCuts, wn_X2_takeFromCuts, wp_X2_takeFromCuts⟩
theorem wd_617 : Cond.code ({ cls := "UtilityBoard$Drawing", name := "isSound", desc := "()Z" } : MethodName) prog_4_method_12_code (2 : Nat) (Option.some .boolean) ∈ lw_ok := lw_ok_mem (tb_2 _ (List.mem_of_getElem? (i := 39) rfl)) rfl
theorem wc_X2_isSound : Cond.code yX2_isSound cX2_isSound 2 (some .boolean) ∈ lw_ok := wd_617
theorem wi_X2_isSound : Cond.initialized yX2_isSound.cls ∈ lw_ok := wd_114
theorem wn_X2_isSound : notMH yX2_isSound := ⟨by decide, by decide⟩
theorem wp_X2_isSound : (parseMethodDescriptor yX2_isSound.desc).map (fun d => d.parameters.length) = some 0 := by decide +kernel
theorem wd_616 : Cond.instanceMethod ({ cls := "UtilityBoard$Drawing", name := "isSound", desc := "()Z" } : MethodName) ∈ lw_ok := lw_ok_mem (tb_2 _ (List.mem_of_getElem? (i := 38) (by decide +kernel))) rfl
theorem wm_X2_isSound : Cond.instanceMethod yX2_isSound ∈ lw_ok := wd_616
theorem wd_17 : Cond.selects "UtilityBoard$Drawing" ⟨"UtilityBoard$Drawing", "isSound", "()Z"⟩ ⟨"UtilityBoard$Drawing", "isSound", "()Z"⟩ ∈ lw_ok := lw_ok_mem (List.mem_append_left _ (List.mem_of_getElem? (i := 17) (by decide +kernel))) rfl
theorem ws_X2_isSound : Cond.selects yX2_isSound.cls yX2_isSound yX2_isSound ∈ lw_ok := wd_17
theorem wd_614 : Cond.methodLink "UtilityBoard$Drawing" (76 : Nat) ({ cls := "UtilityBoard$Drawing", name := "isSound", desc := "()Z" } : MethodName) ∈ lw_ok := lw_ok_mem (tb_2 _ (List.mem_of_getElem? (i := 36) (by decide +kernel))) rfl
theorem cv_X2_76 : CVW RX2 76 yX2_isSound.cls yX2_isSound cX2_isSound 2 (some .boolean) 0 := ⟨wd_614, wm_X2_isSound, ws_X2_isSound, wi_X2_isSound, wc_X2_isSound, wn_X2_isSound, wp_X2_isSound⟩
theorem wd_629 : Cond.code ({ cls := "UtilityBoard$Drawing", name := "choose", desc := "(II)V" } : MethodName) prog_4_method_6_code (7 : Nat) none ∈ lw_ok := lw_ok_mem (tb_2 _ (List.mem_of_getElem? (i := 51) rfl)) rfl
theorem wc_X2_choose : Cond.code yX2_choose cX2_choose 7 none ∈ lw_ok := wd_629
theorem wi_X2_choose : Cond.initialized yX2_choose.cls ∈ lw_ok := wd_114
theorem wn_X2_choose : notMH yX2_choose := ⟨by decide, by decide⟩
theorem wp_X2_choose : (parseMethodDescriptor yX2_choose.desc).map (fun d => d.parameters.length) = some 2 := by decide +kernel
theorem wd_628 : Cond.instanceMethod ({ cls := "UtilityBoard$Drawing", name := "choose", desc := "(II)V" } : MethodName) ∈ lw_ok := lw_ok_mem (tb_2 _ (List.mem_of_getElem? (i := 50) (by decide +kernel))) rfl
theorem wm_X2_choose : Cond.instanceMethod yX2_choose ∈ lw_ok := wd_628
theorem wd_18 : Cond.selects "UtilityBoard$Drawing" ⟨"UtilityBoard$Drawing", "choose", "(II)V"⟩ ⟨"UtilityBoard$Drawing", "choose", "(II)V"⟩ ∈ lw_ok := lw_ok_mem (List.mem_append_left _ (List.mem_of_getElem? (i := 18) (by decide +kernel))) rfl
theorem ws_X2_choose : Cond.selects yX2_choose.cls yX2_choose yX2_choose ∈ lw_ok := wd_18
theorem wd_626 : Cond.methodLink "UtilityBoard$Drawing" (80 : Nat) ({ cls := "UtilityBoard$Drawing", name := "choose", desc := "(II)V" } : MethodName) ∈ lw_ok := lw_ok_mem (tb_2 _ (List.mem_of_getElem? (i := 48) (by decide +kernel))) rfl
theorem cv_X2_80 : CVW RX2 80 yX2_choose.cls yX2_choose cX2_choose 7 none 2 := ⟨wd_626, wm_X2_choose, ws_X2_choose, wi_X2_choose, wc_X2_choose, wn_X2_choose, wp_X2_choose⟩
theorem wd_592 : Cond.code ({ cls := "UtilityBoard$Drawing", name := "greatestLoad", desc := "(I)I" } : MethodName) prog_4_method_8_code (4 : Nat) (Option.some .int) ∈ lw_ok := lw_ok_mem (tb_2 _ (List.mem_of_getElem? (i := 14) rfl)) rfl
theorem wc_X2_greatestLoad : Cond.code yX2_greatestLoad cX2_greatestLoad 4 (some .int) ∈ lw_ok := wd_592
theorem wi_X2_greatestLoad : Cond.initialized yX2_greatestLoad.cls ∈ lw_ok := wd_114
theorem wn_X2_greatestLoad : notMH yX2_greatestLoad := ⟨by decide, by decide⟩
theorem wp_X2_greatestLoad : (parseMethodDescriptor yX2_greatestLoad.desc).map (fun d => d.parameters.length) = some 1 := by decide +kernel
theorem wd_591 : Cond.instanceMethod ({ cls := "UtilityBoard$Drawing", name := "greatestLoad", desc := "(I)I" } : MethodName) ∈ lw_ok := lw_ok_mem (tb_2 _ (List.mem_of_getElem? (i := 13) (by decide +kernel))) rfl
theorem wm_X2_greatestLoad : Cond.instanceMethod yX2_greatestLoad ∈ lw_ok := wd_591
theorem wd_13 : Cond.selects "UtilityBoard$Drawing" ⟨"UtilityBoard$Drawing", "greatestLoad", "(I)I"⟩ ⟨"UtilityBoard$Drawing", "greatestLoad", "(I)I"⟩ ∈ lw_ok := lw_ok_mem (List.mem_append_left _ (List.mem_of_getElem? (i := 13) (by decide +kernel))) rfl
theorem ws_X2_greatestLoad : Cond.selects yX2_greatestLoad.cls yX2_greatestLoad yX2_greatestLoad ∈ lw_ok := wd_13
theorem wd_589 : Cond.methodLink "UtilityBoard$Drawing" (92 : Nat) ({ cls := "UtilityBoard$Drawing", name := "greatestLoad", desc := "(I)I" } : MethodName) ∈ lw_ok := lw_ok_mem (tb_2 _ (List.mem_of_getElem? (i := 11) (by decide +kernel))) rfl
theorem cv_X2_92 : CVW RX2 92 yX2_greatestLoad.cls yX2_greatestLoad cX2_greatestLoad 4 (some .int) 1 := ⟨wd_589, wm_X2_greatestLoad, ws_X2_greatestLoad, wi_X2_greatestLoad, wc_X2_greatestLoad, wn_X2_greatestLoad, wp_X2_greatestLoad⟩
theorem wd_597 : Cond.code ({ cls := "UtilityBoard$Drawing", name := "sticksOutOf", desc := "(I)I" } : MethodName) prog_4_method_9_code (4 : Nat) (Option.some .int) ∈ lw_ok := lw_ok_mem (tb_2 _ (List.mem_of_getElem? (i := 19) rfl)) rfl
theorem wc_X2_sticksOutOf : Cond.code yX2_sticksOutOf cX2_sticksOutOf 4 (some .int) ∈ lw_ok := wd_597
theorem wi_X2_sticksOutOf : Cond.initialized yX2_sticksOutOf.cls ∈ lw_ok := wd_114
theorem wn_X2_sticksOutOf : notMH yX2_sticksOutOf := ⟨by decide, by decide⟩
theorem wp_X2_sticksOutOf : (parseMethodDescriptor yX2_sticksOutOf.desc).map (fun d => d.parameters.length) = some 1 := by decide +kernel
theorem wd_596 : Cond.instanceMethod ({ cls := "UtilityBoard$Drawing", name := "sticksOutOf", desc := "(I)I" } : MethodName) ∈ lw_ok := lw_ok_mem (tb_2 _ (List.mem_of_getElem? (i := 18) (by decide +kernel))) rfl
theorem wm_X2_sticksOutOf : Cond.instanceMethod yX2_sticksOutOf ∈ lw_ok := wd_596
theorem wd_14 : Cond.selects "UtilityBoard$Drawing" ⟨"UtilityBoard$Drawing", "sticksOutOf", "(I)I"⟩ ⟨"UtilityBoard$Drawing", "sticksOutOf", "(I)I"⟩ ∈ lw_ok := lw_ok_mem (List.mem_append_left _ (List.mem_of_getElem? (i := 14) (by decide +kernel))) rfl
theorem ws_X2_sticksOutOf : Cond.selects yX2_sticksOutOf.cls yX2_sticksOutOf yX2_sticksOutOf ∈ lw_ok := wd_14
theorem wd_594 : Cond.methodLink "UtilityBoard$Drawing" (96 : Nat) ({ cls := "UtilityBoard$Drawing", name := "sticksOutOf", desc := "(I)I" } : MethodName) ∈ lw_ok := lw_ok_mem (tb_2 _ (List.mem_of_getElem? (i := 16) (by decide +kernel))) rfl
theorem cv_X2_96 : CVW RX2 96 yX2_sticksOutOf.cls yX2_sticksOutOf cX2_sticksOutOf 4 (some .int) 1 := ⟨wd_594, wm_X2_sticksOutOf, ws_X2_sticksOutOf, wi_X2_sticksOutOf, wc_X2_sticksOutOf, wn_X2_sticksOutOf, wp_X2_sticksOutOf⟩
theorem wd_601 : Cond.code ({ cls := "UtilityBoard$Drawing", name := "addCut", desc := "(II)V" } : MethodName) prog_4_method_10_code (4 : Nat) none ∈ lw_ok := lw_ok_mem (tb_2 _ (List.mem_of_getElem? (i := 23) rfl)) rfl
theorem wc_X2_addCut : Cond.code yX2_addCut cX2_addCut 4 none ∈ lw_ok := wd_601
theorem wi_X2_addCut : Cond.initialized yX2_addCut.cls ∈ lw_ok := wd_114
theorem wn_X2_addCut : notMH yX2_addCut := ⟨by decide, by decide⟩
theorem wp_X2_addCut : (parseMethodDescriptor yX2_addCut.desc).map (fun d => d.parameters.length) = some 2 := by decide +kernel
theorem wd_600 : Cond.instanceMethod ({ cls := "UtilityBoard$Drawing", name := "addCut", desc := "(II)V" } : MethodName) ∈ lw_ok := lw_ok_mem (tb_2 _ (List.mem_of_getElem? (i := 22) (by decide +kernel))) rfl
theorem wm_X2_addCut : Cond.instanceMethod yX2_addCut ∈ lw_ok := wd_600
theorem wd_15 : Cond.selects "UtilityBoard$Drawing" ⟨"UtilityBoard$Drawing", "addCut", "(II)V"⟩ ⟨"UtilityBoard$Drawing", "addCut", "(II)V"⟩ ∈ lw_ok := lw_ok_mem (List.mem_append_left _ (List.mem_of_getElem? (i := 15) (by decide +kernel))) rfl
theorem ws_X2_addCut : Cond.selects yX2_addCut.cls yX2_addCut yX2_addCut ∈ lw_ok := wd_15
theorem wd_598 : Cond.methodLink "UtilityBoard$Drawing" (99 : Nat) ({ cls := "UtilityBoard$Drawing", name := "addCut", desc := "(II)V" } : MethodName) ∈ lw_ok := lw_ok_mem (tb_2 _ (List.mem_of_getElem? (i := 20) (by decide +kernel))) rfl
theorem cv_X2_99 : CVW RX2 99 yX2_addCut.cls yX2_addCut cX2_addCut 4 none 2 := ⟨wd_598, wm_X2_addCut, ws_X2_addCut, wi_X2_addCut, wc_X2_addCut, wn_X2_addCut, wp_X2_addCut⟩
theorem wd_593 : Cond.methodLink "UtilityBoard$Drawing" (102 : Nat) ({ cls := "java/lang/Math", name := "max", desc := "(II)I" } : MethodName) ∈ lw_ok := lw_ok_mem (tb_2 _ (List.mem_of_getElem? (i := 15) (by decide +kernel))) rfl
theorem cs_X2_102 : CSW RX2 102 yJ9_max_7cf53 cJ9_max_7cf53 2 (some .int) 2 := ⟨wd_593, wt_J9_max_7cf53, wi_J9_max_7cf53, wc_J9_max_7cf53, wn_J9_max_7cf53, wp_J9_max_7cf53⟩
theorem wd_604 : Cond.methodLink "UtilityBoard$Drawing" (108 : Nat) ({ cls := "java/lang/Integer", name := "bitCount", desc := "(I)I" } : MethodName) ∈ lw_ok := lw_ok_mem (tb_2 _ (List.mem_of_getElem? (i := 26) (by decide +kernel))) rfl
theorem cs_X2_108 : CSW RX2 108 yJ6_bitCount_0f7a4 cJ6_bitCount_0f7a4 1 (some .int) 1 := ⟨wd_604, wt_J6_bitCount_0f7a4, wi_J6_bitCount_0f7a4, wc_J6_bitCount_0f7a4, wn_J6_bitCount_0f7a4, wp_J6_bitCount_0f7a4⟩
theorem wd_216 : Cond.methodLink "UtilityBoard$Law" (11 : Nat) ({ cls := "java/util/ArrayList", name := "<init>", desc := "()V" } : MethodName) ∈ lw_ok := lw_ok_mem (tb_0 _ (List.mem_of_getElem? (i := 118) (by decide +kernel))) rfl
theorem ci_X4_11 : CIW RX4 11 yJx4a65c_init_da8c8 cJx4a65c_init_da8c8 1 0 := ⟨wd_216, wm_Jx4a65c_init_da8c8, wi_Jx4a65c_init_da8c8, wc_Jx4a65c_init_da8c8, rfl, wn_Jx4a65c_init_da8c8, wp_Jx4a65c_init_da8c8⟩
theorem wd_340 : Cond.methodLink "UtilityBoard$Law" (42 : Nat) ({ cls := "java/util/ArrayList", name := "size", desc := "()I" } : MethodName) ∈ lw_ok := lw_ok_mem (tb_1 _ (List.mem_of_getElem? (i := 2) (by decide +kernel))) rfl
theorem cv_X4_42 : CVW RX4 42 yJx4a65c_size_8abf5.cls yJx4a65c_size_8abf5 cJx4a65c_size_8abf5 1 (some .int) 0 := ⟨wd_340, wm_Jx4a65c_size_8abf5, ws_Jx4a65c_size_8abf5, wi_Jx4a65c_size_8abf5, wc_Jx4a65c_size_8abf5, wn_Jx4a65c_size_8abf5, wp_Jx4a65c_size_8abf5⟩
theorem wd_344 : Cond.methodLink "UtilityBoard$Law" (46 : Nat) ({ cls := "java/util/ArrayList", name := "get", desc := "(I)Ljava/lang/Object;" } : MethodName) ∈ lw_ok := lw_ok_mem (tb_1 _ (List.mem_of_getElem? (i := 6) (by decide +kernel))) rfl
theorem cv_X4_46 : CVW RX4 46 yJx4a65c_get_915e3.cls yJx4a65c_get_915e3 cJx4a65c_get_915e3 2 (some (.object "java/lang/Object")) 1 := ⟨wd_344, wm_Jx4a65c_get_915e3, ws_Jx4a65c_get_915e3, wi_Jx4a65c_get_915e3, wc_Jx4a65c_get_915e3, wn_Jx4a65c_get_915e3, wp_Jx4a65c_get_915e3⟩
theorem wd_362 : Cond.code ({ cls := "UtilityBoard$Law", name := "counts", desc := "(IIC)Z" } : MethodName) prog_6_method_6_code (4 : Nat) (Option.some .boolean) ∈ lw_ok := lw_ok_mem (tb_1 _ (List.mem_of_getElem? (i := 24) rfl)) rfl
theorem wc_X4_counts : Cond.code yX4_counts cX4_counts 4 (some .boolean) ∈ lw_ok := wd_362
theorem wi_X4_counts : Cond.initialized yX4_counts.cls ∈ lw_ok := wd_104
theorem wn_X4_counts : notMH yX4_counts := ⟨by decide, by decide⟩
theorem wp_X4_counts : (parseMethodDescriptor yX4_counts.desc).map (fun d => d.parameters.length) = some 3 := by decide +kernel
theorem wd_361 : Cond.instanceMethod ({ cls := "UtilityBoard$Law", name := "counts", desc := "(IIC)Z" } : MethodName) ∈ lw_ok := lw_ok_mem (tb_1 _ (List.mem_of_getElem? (i := 23) (by decide +kernel))) rfl
theorem wm_X4_counts : Cond.instanceMethod yX4_counts ∈ lw_ok := wd_361
theorem wd_1 : Cond.selects "UtilityBoard$Law" ⟨"UtilityBoard$Law", "counts", "(IIC)Z"⟩ ⟨"UtilityBoard$Law", "counts", "(IIC)Z"⟩ ∈ lw_ok := lw_ok_mem (List.mem_append_left _ (List.mem_of_getElem? (i := 1) (by decide +kernel))) rfl
theorem ws_X4_counts : Cond.selects yX4_counts.cls yX4_counts yX4_counts ∈ lw_ok := wd_1
theorem wd_359 : Cond.methodLink "UtilityBoard$Law" (64 : Nat) ({ cls := "UtilityBoard$Law", name := "counts", desc := "(IIC)Z" } : MethodName) ∈ lw_ok := lw_ok_mem (tb_1 _ (List.mem_of_getElem? (i := 21) (by decide +kernel))) rfl
theorem cv_X4_64 : CVW RX4 64 yX4_counts.cls yX4_counts cX4_counts 4 (some .boolean) 3 := ⟨wd_359, wm_X4_counts, ws_X4_counts, wi_X4_counts, wc_X4_counts, wn_X4_counts, wp_X4_counts⟩
theorem wd_370 : Cond.code ({ cls := "UtilityBoard$Thing", name := "sign", desc := "()I" } : MethodName) prog_12_method_4_code (1 : Nat) (Option.some .int) ∈ lw_ok := lw_ok_mem (tb_1 _ (List.mem_of_getElem? (i := 32) rfl)) rfl
theorem wc_X10_sign : Cond.code yX10_sign cX10_sign 1 (some .int) ∈ lw_ok := wd_370
theorem wi_X10_sign : Cond.initialized yX10_sign.cls ∈ lw_ok := wd_116
theorem wn_X10_sign : notMH yX10_sign := ⟨by decide, by decide⟩
theorem wp_X10_sign : (parseMethodDescriptor yX10_sign.desc).map (fun d => d.parameters.length) = some 0 := by decide +kernel
theorem wd_368 : Cond.instanceMethod ({ cls := "UtilityBoard$Thing", name := "sign", desc := "()I" } : MethodName) ∈ lw_ok := lw_ok_mem (tb_1 _ (List.mem_of_getElem? (i := 30) (by decide +kernel))) rfl
theorem wm_X10_sign : Cond.instanceMethod yX10_sign ∈ lw_ok := wd_368
theorem wd_369 : Cond.selects "UtilityBoard$Thing" ({ cls := "UtilityBoard$Thing", name := "sign", desc := "()I" } : MethodName) ({ cls := "UtilityBoard$Thing", name := "sign", desc := "()I" } : MethodName) ∈ lw_ok := lw_ok_mem (tb_1 _ (List.mem_of_getElem? (i := 31) (by decide +kernel))) rfl
theorem ws_X10_sign : Cond.selects yX10_sign.cls yX10_sign yX10_sign ∈ lw_ok := wd_369
theorem wd_367 : Cond.methodLink "UtilityBoard$Law" (79 : Nat) ({ cls := "UtilityBoard$Thing", name := "sign", desc := "()I" } : MethodName) ∈ lw_ok := lw_ok_mem (tb_1 _ (List.mem_of_getElem? (i := 29) (by decide +kernel))) rfl
theorem cv_X4_79 : CVW RX4 79 yX10_sign.cls yX10_sign cX10_sign 1 (some .int) 0 := ⟨wd_367, wm_X10_sign, ws_X10_sign, wi_X10_sign, wc_X10_sign, wn_X10_sign, wp_X10_sign⟩
theorem wd_378 : Cond.code ({ cls := "UtilityBoard$Law", name := "holds", desc := "(LUtilityBoard$Order;I)Z" } : MethodName) prog_6_method_7_code (5 : Nat) (Option.some .boolean) ∈ lw_ok := lw_ok_mem (tb_1 _ (List.mem_of_getElem? (i := 40) rfl)) rfl
theorem wc_X4_holds : Cond.code yX4_holds cX4_holds 5 (some .boolean) ∈ lw_ok := wd_378
theorem wi_X4_holds : Cond.initialized yX4_holds.cls ∈ lw_ok := wd_104
theorem wn_X4_holds : notMH yX4_holds := ⟨by decide, by decide⟩
theorem wp_X4_holds : (parseMethodDescriptor yX4_holds.desc).map (fun d => d.parameters.length) = some 2 := by decide +kernel
theorem wd_377 : Cond.instanceMethod ({ cls := "UtilityBoard$Law", name := "holds", desc := "(LUtilityBoard$Order;I)Z" } : MethodName) ∈ lw_ok := lw_ok_mem (tb_1 _ (List.mem_of_getElem? (i := 39) (by decide +kernel))) rfl
theorem wm_X4_holds : Cond.instanceMethod yX4_holds ∈ lw_ok := wd_377
theorem wd_2 : Cond.selects "UtilityBoard$Law" ⟨"UtilityBoard$Law", "holds", "(LUtilityBoard$Order;I)Z"⟩ ⟨"UtilityBoard$Law", "holds", "(LUtilityBoard$Order;I)Z"⟩ ∈ lw_ok := lw_ok_mem (List.mem_append_left _ (List.mem_of_getElem? (i := 2) (by decide +kernel))) rfl
theorem ws_X4_holds : Cond.selects yX4_holds.cls yX4_holds yX4_holds ∈ lw_ok := wd_2
theorem wd_375 : Cond.methodLink "UtilityBoard$Law" (108 : Nat) ({ cls := "UtilityBoard$Law", name := "holds", desc := "(LUtilityBoard$Order;I)Z" } : MethodName) ∈ lw_ok := lw_ok_mem (tb_1 _ (List.mem_of_getElem? (i := 37) (by decide +kernel))) rfl
theorem cv_X4_108 : CVW RX4 108 yX4_holds.cls yX4_holds cX4_holds 5 (some .boolean) 2 := ⟨wd_375, wm_X4_holds, ws_X4_holds, wi_X4_holds, wc_X4_holds, wn_X4_holds, wp_X4_holds⟩
theorem wd_382 : Cond.code ({ cls := "UtilityBoard$Law", name := "step", desc := "(I)V" } : MethodName) prog_6_method_8_code (4 : Nat) none ∈ lw_ok := lw_ok_mem (tb_1 _ (List.mem_of_getElem? (i := 44) rfl)) rfl
theorem wc_X4_step : Cond.code yX4_step cX4_step 4 none ∈ lw_ok := wd_382
theorem wi_X4_step : Cond.initialized yX4_step.cls ∈ lw_ok := wd_104
theorem wn_X4_step : notMH yX4_step := ⟨by decide, by decide⟩
theorem wp_X4_step : (parseMethodDescriptor yX4_step.desc).map (fun d => d.parameters.length) = some 1 := by decide +kernel
theorem wd_381 : Cond.instanceMethod ({ cls := "UtilityBoard$Law", name := "step", desc := "(I)V" } : MethodName) ∈ lw_ok := lw_ok_mem (tb_1 _ (List.mem_of_getElem? (i := 43) (by decide +kernel))) rfl
theorem wm_X4_step : Cond.instanceMethod yX4_step ∈ lw_ok := wd_381
theorem wd_3 : Cond.selects "UtilityBoard$Law" ⟨"UtilityBoard$Law", "step", "(I)V"⟩ ⟨"UtilityBoard$Law", "step", "(I)V"⟩ ∈ lw_ok := lw_ok_mem (List.mem_append_left _ (List.mem_of_getElem? (i := 3) (by decide +kernel))) rfl
theorem ws_X4_step : Cond.selects yX4_step.cls yX4_step yX4_step ∈ lw_ok := wd_3
theorem wd_379 : Cond.methodLink "UtilityBoard$Law" (119 : Nat) ({ cls := "UtilityBoard$Law", name := "step", desc := "(I)V" } : MethodName) ∈ lw_ok := lw_ok_mem (tb_1 _ (List.mem_of_getElem? (i := 41) (by decide +kernel))) rfl
theorem cv_X4_119 : CVW RX4 119 yX4_step.cls yX4_step cX4_step 4 none 1 := ⟨wd_379, wm_X4_step, ws_X4_step, wi_X4_step, wc_X4_step, wn_X4_step, wp_X4_step⟩
theorem wd_386 : Cond.code ({ cls := "UtilityBoard$Law", name := "push", desc := "(I)V" } : MethodName) prog_6_method_10_code (2 : Nat) none ∈ lw_ok := lw_ok_mem (tb_1 _ (List.mem_of_getElem? (i := 48) rfl)) rfl
theorem wc_X4_push : Cond.code yX4_push cX4_push 2 none ∈ lw_ok := wd_386
theorem wi_X4_push : Cond.initialized yX4_push.cls ∈ lw_ok := wd_104
theorem wn_X4_push : notMH yX4_push := ⟨by decide, by decide⟩
theorem wp_X4_push : (parseMethodDescriptor yX4_push.desc).map (fun d => d.parameters.length) = some 1 := by decide +kernel
theorem wd_385 : Cond.instanceMethod ({ cls := "UtilityBoard$Law", name := "push", desc := "(I)V" } : MethodName) ∈ lw_ok := lw_ok_mem (tb_1 _ (List.mem_of_getElem? (i := 47) (by decide +kernel))) rfl
theorem wm_X4_push : Cond.instanceMethod yX4_push ∈ lw_ok := wd_385
theorem wd_4 : Cond.selects "UtilityBoard$Law" ⟨"UtilityBoard$Law", "push", "(I)V"⟩ ⟨"UtilityBoard$Law", "push", "(I)V"⟩ ∈ lw_ok := lw_ok_mem (List.mem_append_left _ (List.mem_of_getElem? (i := 4) (by decide +kernel))) rfl
theorem ws_X4_push : Cond.selects yX4_push.cls yX4_push yX4_push ∈ lw_ok := wd_4
theorem wd_383 : Cond.methodLink "UtilityBoard$Law" (123 : Nat) ({ cls := "UtilityBoard$Law", name := "push", desc := "(I)V" } : MethodName) ∈ lw_ok := lw_ok_mem (tb_1 _ (List.mem_of_getElem? (i := 45) (by decide +kernel))) rfl
theorem cv_X4_123 : CVW RX4 123 yX4_push.cls yX4_push cX4_push 2 none 1 := ⟨wd_383, wm_X4_push, ws_X4_push, wi_X4_push, wc_X4_push, wn_X4_push, wp_X4_push⟩
theorem wd_390 : Cond.code ({ cls := "UtilityBoard$Law", name := "join", desc := "(I)V" } : MethodName) prog_6_method_9_code (4 : Nat) none ∈ lw_ok := lw_ok_mem (tb_1 _ (List.mem_of_getElem? (i := 52) rfl)) rfl
theorem wc_X4_join : Cond.code yX4_join cX4_join 4 none ∈ lw_ok := wd_390
theorem wi_X4_join : Cond.initialized yX4_join.cls ∈ lw_ok := wd_104
theorem wn_X4_join : notMH yX4_join := ⟨by decide, by decide⟩
theorem wp_X4_join : (parseMethodDescriptor yX4_join.desc).map (fun d => d.parameters.length) = some 1 := by decide +kernel
theorem wd_389 : Cond.instanceMethod ({ cls := "UtilityBoard$Law", name := "join", desc := "(I)V" } : MethodName) ∈ lw_ok := lw_ok_mem (tb_1 _ (List.mem_of_getElem? (i := 51) (by decide +kernel))) rfl
theorem wm_X4_join : Cond.instanceMethod yX4_join ∈ lw_ok := wd_389
theorem wd_5 : Cond.selects "UtilityBoard$Law" ⟨"UtilityBoard$Law", "join", "(I)V"⟩ ⟨"UtilityBoard$Law", "join", "(I)V"⟩ ∈ lw_ok := lw_ok_mem (List.mem_append_left _ (List.mem_of_getElem? (i := 5) (by decide +kernel))) rfl
theorem ws_X4_join : Cond.selects yX4_join.cls yX4_join yX4_join ∈ lw_ok := wd_5
theorem wd_387 : Cond.methodLink "UtilityBoard$Law" (126 : Nat) ({ cls := "UtilityBoard$Law", name := "join", desc := "(I)V" } : MethodName) ∈ lw_ok := lw_ok_mem (tb_1 _ (List.mem_of_getElem? (i := 49) (by decide +kernel))) rfl
theorem cv_X4_126 : CVW RX4 126 yX4_join.cls yX4_join cX4_join 4 none 1 := ⟨wd_387, wm_X4_join, ws_X4_join, wi_X4_join, wc_X4_join, wn_X4_join, wp_X4_join⟩
theorem wd_394 : Cond.code ({ cls := "UtilityBoard$Law", name := "pop", desc := "()I" } : MethodName) prog_6_method_11_code (1 : Nat) (Option.some .int) ∈ lw_ok := lw_ok_mem (tb_1 _ (List.mem_of_getElem? (i := 56) rfl)) rfl
theorem wc_X4_pop : Cond.code yX4_pop cX4_pop 1 (some .int) ∈ lw_ok := wd_394
theorem wi_X4_pop : Cond.initialized yX4_pop.cls ∈ lw_ok := wd_104
theorem wn_X4_pop : notMH yX4_pop := ⟨by decide, by decide⟩
theorem wp_X4_pop : (parseMethodDescriptor yX4_pop.desc).map (fun d => d.parameters.length) = some 0 := by decide +kernel
theorem wd_393 : Cond.instanceMethod ({ cls := "UtilityBoard$Law", name := "pop", desc := "()I" } : MethodName) ∈ lw_ok := lw_ok_mem (tb_1 _ (List.mem_of_getElem? (i := 55) (by decide +kernel))) rfl
theorem wm_X4_pop : Cond.instanceMethod yX4_pop ∈ lw_ok := wd_393
theorem wd_6 : Cond.selects "UtilityBoard$Law" ⟨"UtilityBoard$Law", "pop", "()I"⟩ ⟨"UtilityBoard$Law", "pop", "()I"⟩ ∈ lw_ok := lw_ok_mem (List.mem_append_left _ (List.mem_of_getElem? (i := 6) (by decide +kernel))) rfl
theorem ws_X4_pop : Cond.selects yX4_pop.cls yX4_pop yX4_pop ∈ lw_ok := wd_6
theorem wd_391 : Cond.methodLink "UtilityBoard$Law" (129 : Nat) ({ cls := "UtilityBoard$Law", name := "pop", desc := "()I" } : MethodName) ∈ lw_ok := lw_ok_mem (tb_1 _ (List.mem_of_getElem? (i := 53) (by decide +kernel))) rfl
theorem cv_X4_129 : CVW RX4 129 yX4_pop.cls yX4_pop cX4_pop 1 (some .int) 0 := ⟨wd_391, wm_X4_pop, ws_X4_pop, wi_X4_pop, wc_X4_pop, wn_X4_pop, wp_X4_pop⟩
theorem wd_730 : Cond.methodLink "UtilityBoard$Layout" (51 : Nat) ({ cls := "java/lang/Math", name := "max", desc := "(II)I" } : MethodName) ∈ lw_ok := lw_ok_mem (tb_2 _ (List.mem_of_getElem? (i := 152) (by decide +kernel))) rfl
theorem cs_X5_51 : CSW RX5 51 yJ9_max_7cf53 cJ9_max_7cf53 2 (some .int) 2 := ⟨wd_730, wt_J9_max_7cf53, wi_J9_max_7cf53, wc_J9_max_7cf53, wn_J9_max_7cf53, wp_J9_max_7cf53⟩
theorem wd_742 : Cond.code ({ cls := "UtilityBoard$Layout", name := "measureSets", desc := "(LUtilityBoard$Thing;)V" } : MethodName) prog_7_method_5_code (5 : Nat) none ∈ lw_ok := lw_ok_mem (tb_2 _ (List.mem_of_getElem? (i := 164) rfl)) rfl
theorem wc_X5_measureSets : Cond.code yX5_measureSets cX5_measureSets 5 none ∈ lw_ok := wd_742
theorem wi_X5_measureSets : Cond.initialized yX5_measureSets.cls ∈ lw_ok := wd_105
theorem wn_X5_measureSets : notMH yX5_measureSets := ⟨by decide, by decide⟩
theorem wp_X5_measureSets : (parseMethodDescriptor yX5_measureSets.desc).map (fun d => d.parameters.length) = some 1 := by decide +kernel
theorem wd_741 : Cond.instanceMethod ({ cls := "UtilityBoard$Layout", name := "measureSets", desc := "(LUtilityBoard$Thing;)V" } : MethodName) ∈ lw_ok := lw_ok_mem (tb_2 _ (List.mem_of_getElem? (i := 163) (by decide +kernel))) rfl
theorem wm_X5_measureSets : Cond.instanceMethod yX5_measureSets ∈ lw_ok := wd_741
theorem wd_23 : Cond.selects "UtilityBoard$Layout" ⟨"UtilityBoard$Layout", "measureSets", "(LUtilityBoard$Thing;)V"⟩ ⟨"UtilityBoard$Layout", "measureSets", "(LUtilityBoard$Thing;)V"⟩ ∈ lw_ok := lw_ok_mem (List.mem_append_left _ (List.mem_of_getElem? (i := 23) (by decide +kernel))) rfl
theorem ws_X5_measureSets : Cond.selects yX5_measureSets.cls yX5_measureSets yX5_measureSets ∈ lw_ok := wd_23
theorem wd_739 : Cond.methodLink "UtilityBoard$Layout" (57 : Nat) ({ cls := "UtilityBoard$Layout", name := "measureSets", desc := "(LUtilityBoard$Thing;)V" } : MethodName) ∈ lw_ok := lw_ok_mem (tb_2 _ (List.mem_of_getElem? (i := 161) (by decide +kernel))) rfl
theorem cv_X5_57 : CVW RX5 57 yX5_measureSets.cls yX5_measureSets cX5_measureSets 5 none 1 := ⟨wd_739, wm_X5_measureSets, ws_X5_measureSets, wi_X5_measureSets, wc_X5_measureSets, wn_X5_measureSets, wp_X5_measureSets⟩
theorem wd_750 : Cond.code ({ cls := "UtilityBoard$Layout", name := "shortenSets", desc := "(I)V" } : MethodName) prog_7_method_6_code (8 : Nat) none ∈ lw_ok := lw_ok_mem (tb_2 _ (List.mem_of_getElem? (i := 172) rfl)) rfl
theorem wc_X5_shortenSets : Cond.code yX5_shortenSets cX5_shortenSets 8 none ∈ lw_ok := wd_750
theorem wi_X5_shortenSets : Cond.initialized yX5_shortenSets.cls ∈ lw_ok := wd_105
theorem wn_X5_shortenSets : notMH yX5_shortenSets := ⟨by decide, by decide⟩
theorem wp_X5_shortenSets : (parseMethodDescriptor yX5_shortenSets.desc).map (fun d => d.parameters.length) = some 1 := by decide +kernel
theorem wd_749 : Cond.instanceMethod ({ cls := "UtilityBoard$Layout", name := "shortenSets", desc := "(I)V" } : MethodName) ∈ lw_ok := lw_ok_mem (tb_2 _ (List.mem_of_getElem? (i := 171) (by decide +kernel))) rfl
theorem wm_X5_shortenSets : Cond.instanceMethod yX5_shortenSets ∈ lw_ok := wd_749
theorem wd_24 : Cond.selects "UtilityBoard$Layout" ⟨"UtilityBoard$Layout", "shortenSets", "(I)V"⟩ ⟨"UtilityBoard$Layout", "shortenSets", "(I)V"⟩ ∈ lw_ok := lw_ok_mem (List.mem_append_left _ (List.mem_of_getElem? (i := 24) (by decide +kernel))) rfl
theorem ws_X5_shortenSets : Cond.selects yX5_shortenSets.cls yX5_shortenSets yX5_shortenSets ∈ lw_ok := wd_24
theorem wd_747 : Cond.methodLink "UtilityBoard$Layout" (61 : Nat) ({ cls := "UtilityBoard$Layout", name := "shortenSets", desc := "(I)V" } : MethodName) ∈ lw_ok := lw_ok_mem (tb_2 _ (List.mem_of_getElem? (i := 169) (by decide +kernel))) rfl
theorem cv_X5_61 : CVW RX5 61 yX5_shortenSets.cls yX5_shortenSets cX5_shortenSets 8 none 1 := ⟨wd_747, wm_X5_shortenSets, ws_X5_shortenSets, wi_X5_shortenSets, wc_X5_shortenSets, wn_X5_shortenSets, wp_X5_shortenSets⟩
theorem wd_755 : Cond.code ({ cls := "UtilityBoard$Layout", name := "place", desc := "(LUtilityBoard$Thing;IIIII)Z" } : MethodName) prog_7_method_7_code (13 : Nat) (Option.some .boolean) ∈ lw_ok := lw_ok_mem (tb_2 _ (List.mem_of_getElem? (i := 177) rfl)) rfl
theorem wc_X5_place : Cond.code yX5_place cX5_place 13 (some .boolean) ∈ lw_ok := wd_755
theorem wi_X5_place : Cond.initialized yX5_place.cls ∈ lw_ok := wd_105
theorem wn_X5_place : notMH yX5_place := ⟨by decide, by decide⟩
theorem wp_X5_place : (parseMethodDescriptor yX5_place.desc).map (fun d => d.parameters.length) = some 6 := by decide +kernel
theorem wd_754 : Cond.instanceMethod ({ cls := "UtilityBoard$Layout", name := "place", desc := "(LUtilityBoard$Thing;IIIII)Z" } : MethodName) ∈ lw_ok := lw_ok_mem (tb_2 _ (List.mem_of_getElem? (i := 176) (by decide +kernel))) rfl
theorem wm_X5_place : Cond.instanceMethod yX5_place ∈ lw_ok := wd_754
theorem wd_25 : Cond.selects "UtilityBoard$Layout" ⟨"UtilityBoard$Layout", "place", "(LUtilityBoard$Thing;IIIII)Z"⟩ ⟨"UtilityBoard$Layout", "place", "(LUtilityBoard$Thing;IIIII)Z"⟩ ∈ lw_ok := lw_ok_mem (List.mem_append_left _ (List.mem_of_getElem? (i := 25) (by decide +kernel))) rfl
theorem ws_X5_place : Cond.selects yX5_place.cls yX5_place yX5_place ∈ lw_ok := wd_25
theorem wd_752 : Cond.methodLink "UtilityBoard$Layout" (65 : Nat) ({ cls := "UtilityBoard$Layout", name := "place", desc := "(LUtilityBoard$Thing;IIIII)Z" } : MethodName) ∈ lw_ok := lw_ok_mem (tb_2 _ (List.mem_of_getElem? (i := 174) (by decide +kernel))) rfl
theorem cv_X5_65 : CVW RX5 65 yX5_place.cls yX5_place cX5_place 13 (some .boolean) 6 := ⟨wd_752, wm_X5_place, ws_X5_place, wi_X5_place, wc_X5_place, wn_X5_place, wp_X5_place⟩
theorem wd_745 : Cond.code ({ cls := "java/lang/Integer", name := "numberOfTrailingZeros", desc := "(I)I" } : MethodName) prog_18_method_48_code (2 : Nat) (Option.some .int) ∈ lw_ok := lw_ok_mem (tb_2 _ (List.mem_of_getElem? (i := 167) rfl)) rfl
theorem wc_J6_numberOfTrailingZeros_0f7a4 : Cond.code yJ6_numberOfTrailingZeros_0f7a4 cJ6_numberOfTrailingZeros_0f7a4 2 (some .int) ∈ lw_ok := wd_745
theorem wi_J6_numberOfTrailingZeros_0f7a4 : Cond.initialized yJ6_numberOfTrailingZeros_0f7a4.cls ∈ lw_ok := wd_115
theorem wn_J6_numberOfTrailingZeros_0f7a4 : notMH yJ6_numberOfTrailingZeros_0f7a4 := ⟨by decide, by decide⟩
theorem wp_J6_numberOfTrailingZeros_0f7a4 : (parseMethodDescriptor yJ6_numberOfTrailingZeros_0f7a4.desc).map (fun d => d.parameters.length) = some 1 := by decide +kernel
theorem wd_744 : Cond.static ({ cls := "java/lang/Integer", name := "numberOfTrailingZeros", desc := "(I)I" } : MethodName) ∈ lw_ok := lw_ok_mem (tb_2 _ (List.mem_of_getElem? (i := 166) (by decide +kernel))) rfl
theorem wt_J6_numberOfTrailingZeros_0f7a4 : Cond.static yJ6_numberOfTrailingZeros_0f7a4 ∈ lw_ok := wd_744
theorem wd_743 : Cond.methodLink "UtilityBoard$Layout" (69 : Nat) ({ cls := "java/lang/Integer", name := "numberOfTrailingZeros", desc := "(I)I" } : MethodName) ∈ lw_ok := lw_ok_mem (tb_2 _ (List.mem_of_getElem? (i := 165) (by decide +kernel))) rfl
theorem cs_X5_69 : CSW RX5 69 yJ6_numberOfTrailingZeros_0f7a4 cJ6_numberOfTrailingZeros_0f7a4 2 (some .int) 1 := ⟨wd_743, wt_J6_numberOfTrailingZeros_0f7a4, wi_J6_numberOfTrailingZeros_0f7a4, wc_J6_numberOfTrailingZeros_0f7a4, wn_J6_numberOfTrailingZeros_0f7a4, wp_J6_numberOfTrailingZeros_0f7a4⟩
theorem wd_751 : Cond.methodLink "UtilityBoard$Layout" (75 : Nat) ({ cls := "java/lang/Math", name := "min", desc := "(II)I" } : MethodName) ∈ lw_ok := lw_ok_mem (tb_2 _ (List.mem_of_getElem? (i := 173) (by decide +kernel))) rfl
theorem cs_X5_75 : CSW RX5 75 yJ9_min_7cf53 cJ9_min_7cf53 2 (some .int) 2 := ⟨wd_751, wt_J9_min_7cf53, wi_J9_min_7cf53, wc_J9_min_7cf53, wn_J9_min_7cf53, wp_J9_min_7cf53⟩
theorem wd_759 : Cond.code ({ cls := "UtilityBoard$Layout", name := "atLeast", desc := "(III)I" } : MethodName) prog_7_method_8_code (6 : Nat) (Option.some .int) ∈ lw_ok := lw_ok_mem (tb_2 _ (List.mem_of_getElem? (i := 181) rfl)) rfl
theorem wc_X5_atLeast : Cond.code yX5_atLeast cX5_atLeast 6 (some .int) ∈ lw_ok := wd_759
theorem wi_X5_atLeast : Cond.initialized yX5_atLeast.cls ∈ lw_ok := wd_105
theorem wn_X5_atLeast : notMH yX5_atLeast := ⟨by decide, by decide⟩
theorem wp_X5_atLeast : (parseMethodDescriptor yX5_atLeast.desc).map (fun d => d.parameters.length) = some 3 := by decide +kernel
theorem wd_758 : Cond.instanceMethod ({ cls := "UtilityBoard$Layout", name := "atLeast", desc := "(III)I" } : MethodName) ∈ lw_ok := lw_ok_mem (tb_2 _ (List.mem_of_getElem? (i := 180) (by decide +kernel))) rfl
theorem wm_X5_atLeast : Cond.instanceMethod yX5_atLeast ∈ lw_ok := wd_758
theorem wd_26 : Cond.selects "UtilityBoard$Layout" ⟨"UtilityBoard$Layout", "atLeast", "(III)I"⟩ ⟨"UtilityBoard$Layout", "atLeast", "(III)I"⟩ ∈ lw_ok := lw_ok_mem (List.mem_append_left _ (List.mem_of_getElem? (i := 26) (by decide +kernel))) rfl
theorem ws_X5_atLeast : Cond.selects yX5_atLeast.cls yX5_atLeast yX5_atLeast ∈ lw_ok := wd_26
theorem wd_756 : Cond.methodLink "UtilityBoard$Layout" (78 : Nat) ({ cls := "UtilityBoard$Layout", name := "atLeast", desc := "(III)I" } : MethodName) ∈ lw_ok := lw_ok_mem (tb_2 _ (List.mem_of_getElem? (i := 178) (by decide +kernel))) rfl
theorem cv_X5_78 : CVW RX5 78 yX5_atLeast.cls yX5_atLeast cX5_atLeast 6 (some .int) 3 := ⟨wd_756, wm_X5_atLeast, ws_X5_atLeast, wi_X5_atLeast, wc_X5_atLeast, wn_X5_atLeast, wp_X5_atLeast⟩
theorem wd_982 : Cond.code ({ cls := "java/util/Arrays", name := "copyOf", desc := "([II)[I" } : MethodName) prog_28_method_123_code (3 : Nat) (Option.some (.array .int)) ∈ lw_ok := lw_ok_mem (tb_3 _ (List.mem_of_getElem? (i := 164) rfl)) rfl
theorem wc_J7_copyOf_59c91 : Cond.code yJ7_copyOf_59c91 cJ7_copyOf_59c91 3 (some (.array .int)) ∈ lw_ok := wd_982
theorem wd_112 : Cond.initialized "java/util/Arrays" ∈ lw_ok := lw_ok_mem (tb_0 _ (List.mem_of_getElem? (i := 14) (by decide +kernel))) rfl
theorem wi_J7_copyOf_59c91 : Cond.initialized yJ7_copyOf_59c91.cls ∈ lw_ok := wd_112
theorem wn_J7_copyOf_59c91 : notMH yJ7_copyOf_59c91 := ⟨by decide, by decide⟩
theorem wp_J7_copyOf_59c91 : (parseMethodDescriptor yJ7_copyOf_59c91.desc).map (fun d => d.parameters.length) = some 2 := by decide +kernel
theorem wd_981 : Cond.static ({ cls := "java/util/Arrays", name := "copyOf", desc := "([II)[I" } : MethodName) ∈ lw_ok := lw_ok_mem (tb_3 _ (List.mem_of_getElem? (i := 163) (by decide +kernel))) rfl
theorem wt_J7_copyOf_59c91 : Cond.static yJ7_copyOf_59c91 ∈ lw_ok := wd_981
theorem wd_980 : Cond.methodLink "UtilityBoard$Order" (29 : Nat) ({ cls := "java/util/Arrays", name := "copyOf", desc := "([II)[I" } : MethodName) ∈ lw_ok := lw_ok_mem (tb_3 _ (List.mem_of_getElem? (i := 162) (by decide +kernel))) rfl
theorem cs_X7_29 : CSW RX7 29 yJ7_copyOf_59c91 cJ7_copyOf_59c91 3 (some (.array .int)) 2 := ⟨wd_980, wt_J7_copyOf_59c91, wi_J7_copyOf_59c91, wc_J7_copyOf_59c91, wn_J7_copyOf_59c91, wp_J7_copyOf_59c91⟩
theorem wd_837 : Cond.methodLink "UtilityBoard$Reader" (47 : Nat) ({ cls := "java/lang/Math", name := "min", desc := "(II)I" } : MethodName) ∈ lw_ok := lw_ok_mem (tb_3 _ (List.mem_of_getElem? (i := 19) (by decide +kernel))) rfl
theorem cs_X9_47 : CSW RX9 47 yJ9_min_7cf53 cJ9_min_7cf53 2 (some .int) 2 := ⟨wd_837, wt_J9_min_7cf53, wi_J9_min_7cf53, wc_J9_min_7cf53, wn_J9_min_7cf53, wp_J9_min_7cf53⟩
theorem wd_841 : Cond.code ({ cls := "UtilityBoard$Reader", name := "readClause", desc := "()Z" } : MethodName) prog_11_method_3_code (5 : Nat) (Option.some .boolean) ∈ lw_ok := lw_ok_mem (tb_3 _ (List.mem_of_getElem? (i := 23) rfl)) rfl
theorem wc_X9_readClause : Cond.code yX9_readClause cX9_readClause 5 (some .boolean) ∈ lw_ok := wd_841
theorem wi_X9_readClause : Cond.initialized yX9_readClause.cls ∈ lw_ok := wd_103
theorem wn_X9_readClause : notMH yX9_readClause := ⟨by decide, by decide⟩
theorem wp_X9_readClause : (parseMethodDescriptor yX9_readClause.desc).map (fun d => d.parameters.length) = some 0 := by decide +kernel
theorem wd_840 : Cond.instanceMethod ({ cls := "UtilityBoard$Reader", name := "readClause", desc := "()Z" } : MethodName) ∈ lw_ok := lw_ok_mem (tb_3 _ (List.mem_of_getElem? (i := 22) (by decide +kernel))) rfl
theorem wm_X9_readClause : Cond.instanceMethod yX9_readClause ∈ lw_ok := wd_840
theorem wd_30 : Cond.selects "UtilityBoard$Reader" ⟨"UtilityBoard$Reader", "readClause", "()Z"⟩ ⟨"UtilityBoard$Reader", "readClause", "()Z"⟩ ∈ lw_ok := lw_ok_mem (List.mem_append_left _ (List.mem_of_getElem? (i := 30) (by decide +kernel))) rfl
theorem ws_X9_readClause : Cond.selects yX9_readClause.cls yX9_readClause yX9_readClause ∈ lw_ok := wd_30
theorem wd_838 : Cond.methodLink "UtilityBoard$Reader" (53 : Nat) ({ cls := "UtilityBoard$Reader", name := "readClause", desc := "()Z" } : MethodName) ∈ lw_ok := lw_ok_mem (tb_3 _ (List.mem_of_getElem? (i := 20) (by decide +kernel))) rfl
theorem cv_X9_53 : CVW RX9 53 yX9_readClause.cls yX9_readClause cX9_readClause 5 (some .boolean) 0 := ⟨wd_838, wm_X9_readClause, ws_X9_readClause, wi_X9_readClause, wc_X9_readClause, wn_X9_readClause, wp_X9_readClause⟩
theorem wd_943 : Cond.code ({ cls := "UtilityBoard$Reader", name := "take", desc := "(C)Z" } : MethodName) prog_11_method_10_code (3 : Nat) (Option.some .boolean) ∈ lw_ok := lw_ok_mem (tb_3 _ (List.mem_of_getElem? (i := 125) rfl)) rfl
theorem wc_X9_take : Cond.code yX9_take cX9_take 3 (some .boolean) ∈ lw_ok := wd_943
theorem wi_X9_take : Cond.initialized yX9_take.cls ∈ lw_ok := wd_103
theorem wn_X9_take : notMH yX9_take := ⟨by decide, by decide⟩
theorem wp_X9_take : (parseMethodDescriptor yX9_take.desc).map (fun d => d.parameters.length) = some 1 := by decide +kernel
theorem wd_942 : Cond.instanceMethod ({ cls := "UtilityBoard$Reader", name := "take", desc := "(C)Z" } : MethodName) ∈ lw_ok := lw_ok_mem (tb_3 _ (List.mem_of_getElem? (i := 124) (by decide +kernel))) rfl
theorem wm_X9_take : Cond.instanceMethod yX9_take ∈ lw_ok := wd_942
theorem wd_34 : Cond.selects "UtilityBoard$Reader" ⟨"UtilityBoard$Reader", "take", "(C)Z"⟩ ⟨"UtilityBoard$Reader", "take", "(C)Z"⟩ ∈ lw_ok := lw_ok_mem (List.mem_append_left _ (List.mem_of_getElem? (i := 34) (by decide +kernel))) rfl
theorem ws_X9_take : Cond.selects yX9_take.cls yX9_take yX9_take ∈ lw_ok := wd_34
theorem wd_940 : Cond.methodLink "UtilityBoard$Reader" (57 : Nat) ({ cls := "UtilityBoard$Reader", name := "take", desc := "(C)Z" } : MethodName) ∈ lw_ok := lw_ok_mem (tb_3 _ (List.mem_of_getElem? (i := 122) (by decide +kernel))) rfl
theorem cv_X9_57 : CVW RX9 57 yX9_take.cls yX9_take cX9_take 3 (some .boolean) 1 := ⟨wd_940, wm_X9_take, ws_X9_take, wi_X9_take, wc_X9_take, wn_X9_take, wp_X9_take⟩
theorem wd_845 : Cond.code ({ cls := "UtilityBoard$Reader", name := "here", desc := "()I" } : MethodName) prog_11_method_9_code (1 : Nat) (Option.some .int) ∈ lw_ok := lw_ok_mem (tb_3 _ (List.mem_of_getElem? (i := 27) rfl)) rfl
theorem wc_X9_here : Cond.code yX9_here cX9_here 1 (some .int) ∈ lw_ok := wd_845
theorem wi_X9_here : Cond.initialized yX9_here.cls ∈ lw_ok := wd_103
theorem wn_X9_here : notMH yX9_here := ⟨by decide, by decide⟩
theorem wp_X9_here : (parseMethodDescriptor yX9_here.desc).map (fun d => d.parameters.length) = some 0 := by decide +kernel
theorem wd_844 : Cond.instanceMethod ({ cls := "UtilityBoard$Reader", name := "here", desc := "()I" } : MethodName) ∈ lw_ok := lw_ok_mem (tb_3 _ (List.mem_of_getElem? (i := 26) (by decide +kernel))) rfl
theorem wm_X9_here : Cond.instanceMethod yX9_here ∈ lw_ok := wd_844
theorem wd_31 : Cond.selects "UtilityBoard$Reader" ⟨"UtilityBoard$Reader", "here", "()I"⟩ ⟨"UtilityBoard$Reader", "here", "()I"⟩ ∈ lw_ok := lw_ok_mem (List.mem_append_left _ (List.mem_of_getElem? (i := 31) (by decide +kernel))) rfl
theorem ws_X9_here : Cond.selects yX9_here.cls yX9_here yX9_here ∈ lw_ok := wd_31
theorem wd_842 : Cond.methodLink "UtilityBoard$Reader" (61 : Nat) ({ cls := "UtilityBoard$Reader", name := "here", desc := "()I" } : MethodName) ∈ lw_ok := lw_ok_mem (tb_3 _ (List.mem_of_getElem? (i := 24) (by decide +kernel))) rfl
theorem cv_X9_61 : CVW RX9 61 yX9_here.cls yX9_here cX9_here 1 (some .int) 0 := ⟨wd_842, wm_X9_here, ws_X9_here, wi_X9_here, wc_X9_here, wn_X9_here, wp_X9_here⟩
theorem wd_849 : Cond.code ({ cls := "UtilityBoard$Reader", name := "isOneOf", desc := "(Ljava/lang/String;I)Z" } : MethodName) prog_11_method_14_code (2 : Nat) (Option.some .boolean) ∈ lw_ok := lw_ok_mem (tb_3 _ (List.mem_of_getElem? (i := 31) rfl)) rfl
theorem wc_X9_isOneOf : Cond.code yX9_isOneOf cX9_isOneOf 2 (some .boolean) ∈ lw_ok := wd_849
theorem wi_X9_isOneOf : Cond.initialized yX9_isOneOf.cls ∈ lw_ok := wd_103
theorem wn_X9_isOneOf : notMH yX9_isOneOf := ⟨by decide, by decide⟩
theorem wp_X9_isOneOf : (parseMethodDescriptor yX9_isOneOf.desc).map (fun d => d.parameters.length) = some 2 := by decide +kernel
theorem wd_848 : Cond.static ({ cls := "UtilityBoard$Reader", name := "isOneOf", desc := "(Ljava/lang/String;I)Z" } : MethodName) ∈ lw_ok := lw_ok_mem (tb_3 _ (List.mem_of_getElem? (i := 30) (by decide +kernel))) rfl
theorem wt_X9_isOneOf : Cond.static yX9_isOneOf ∈ lw_ok := wd_848
theorem wd_847 : Cond.methodLink "UtilityBoard$Reader" (67 : Nat) ({ cls := "UtilityBoard$Reader", name := "isOneOf", desc := "(Ljava/lang/String;I)Z" } : MethodName) ∈ lw_ok := lw_ok_mem (tb_3 _ (List.mem_of_getElem? (i := 29) (by decide +kernel))) rfl
theorem cs_X9_67 : CSW RX9 67 yX9_isOneOf cX9_isOneOf 2 (some .boolean) 2 := ⟨wd_847, wt_X9_isOneOf, wi_X9_isOneOf, wc_X9_isOneOf, wn_X9_isOneOf, wp_X9_isOneOf⟩
theorem wd_935 : Cond.code ({ cls := "UtilityBoard$Reader", name := "fail", desc := "(I)Z" } : MethodName) prog_11_method_11_code (2 : Nat) (Option.some .boolean) ∈ lw_ok := lw_ok_mem (tb_3 _ (List.mem_of_getElem? (i := 117) rfl)) rfl
theorem wc_X9_fail : Cond.code yX9_fail cX9_fail 2 (some .boolean) ∈ lw_ok := wd_935
theorem wi_X9_fail : Cond.initialized yX9_fail.cls ∈ lw_ok := wd_103
theorem wn_X9_fail : notMH yX9_fail := ⟨by decide, by decide⟩
theorem wp_X9_fail : (parseMethodDescriptor yX9_fail.desc).map (fun d => d.parameters.length) = some 1 := by decide +kernel
theorem wd_934 : Cond.instanceMethod ({ cls := "UtilityBoard$Reader", name := "fail", desc := "(I)Z" } : MethodName) ∈ lw_ok := lw_ok_mem (tb_3 _ (List.mem_of_getElem? (i := 116) (by decide +kernel))) rfl
theorem wm_X9_fail : Cond.instanceMethod yX9_fail ∈ lw_ok := wd_934
theorem wd_32 : Cond.selects "UtilityBoard$Reader" ⟨"UtilityBoard$Reader", "fail", "(I)Z"⟩ ⟨"UtilityBoard$Reader", "fail", "(I)Z"⟩ ∈ lw_ok := lw_ok_mem (List.mem_append_left _ (List.mem_of_getElem? (i := 32) (by decide +kernel))) rfl
theorem ws_X9_fail : Cond.selects yX9_fail.cls yX9_fail yX9_fail ∈ lw_ok := wd_32
theorem wd_932 : Cond.methodLink "UtilityBoard$Reader" (71 : Nat) ({ cls := "UtilityBoard$Reader", name := "fail", desc := "(I)Z" } : MethodName) ∈ lw_ok := lw_ok_mem (tb_3 _ (List.mem_of_getElem? (i := 114) (by decide +kernel))) rfl
theorem cv_X9_71 : CVW RX9 71 yX9_fail.cls yX9_fail cX9_fail 2 (some .boolean) 1 := ⟨wd_932, wm_X9_fail, ws_X9_fail, wi_X9_fail, wc_X9_fail, wn_X9_fail, wp_X9_fail⟩
theorem wd_939 : Cond.code ({ cls := "UtilityBoard$Reader", name := "readNumber", desc := "(I)I" } : MethodName) prog_11_method_8_code (4 : Nat) (Option.some .int) ∈ lw_ok := lw_ok_mem (tb_3 _ (List.mem_of_getElem? (i := 121) rfl)) rfl
theorem wc_X9_readNumber : Cond.code yX9_readNumber cX9_readNumber 4 (some .int) ∈ lw_ok := wd_939
theorem wi_X9_readNumber : Cond.initialized yX9_readNumber.cls ∈ lw_ok := wd_103
theorem wn_X9_readNumber : notMH yX9_readNumber := ⟨by decide, by decide⟩
theorem wp_X9_readNumber : (parseMethodDescriptor yX9_readNumber.desc).map (fun d => d.parameters.length) = some 1 := by decide +kernel
theorem wd_938 : Cond.instanceMethod ({ cls := "UtilityBoard$Reader", name := "readNumber", desc := "(I)I" } : MethodName) ∈ lw_ok := lw_ok_mem (tb_3 _ (List.mem_of_getElem? (i := 120) (by decide +kernel))) rfl
theorem wm_X9_readNumber : Cond.instanceMethod yX9_readNumber ∈ lw_ok := wd_938
theorem wd_33 : Cond.selects "UtilityBoard$Reader" ⟨"UtilityBoard$Reader", "readNumber", "(I)I"⟩ ⟨"UtilityBoard$Reader", "readNumber", "(I)I"⟩ ∈ lw_ok := lw_ok_mem (List.mem_append_left _ (List.mem_of_getElem? (i := 33) (by decide +kernel))) rfl
theorem ws_X9_readNumber : Cond.selects yX9_readNumber.cls yX9_readNumber yX9_readNumber ∈ lw_ok := wd_33
theorem wd_936 : Cond.methodLink "UtilityBoard$Reader" (75 : Nat) ({ cls := "UtilityBoard$Reader", name := "readNumber", desc := "(I)I" } : MethodName) ∈ lw_ok := lw_ok_mem (tb_3 _ (List.mem_of_getElem? (i := 118) (by decide +kernel))) rfl
theorem cv_X9_75 : CVW RX9 75 yX9_readNumber.cls yX9_readNumber cX9_readNumber 4 (some .int) 1 := ⟨wd_936, wm_X9_readNumber, ws_X9_readNumber, wi_X9_readNumber, wc_X9_readNumber, wn_X9_readNumber, wp_X9_readNumber⟩
theorem wd_949 : Cond.code ({ cls := "UtilityBoard$Reader", name := "readCondition", desc := "(I)Z" } : MethodName) prog_11_method_4_code (6 : Nat) (Option.some .boolean) ∈ lw_ok := lw_ok_mem (tb_3 _ (List.mem_of_getElem? (i := 131) rfl)) rfl
theorem wc_X9_readCondition : Cond.code yX9_readCondition cX9_readCondition 6 (some .boolean) ∈ lw_ok := wd_949
theorem wi_X9_readCondition : Cond.initialized yX9_readCondition.cls ∈ lw_ok := wd_103
theorem wn_X9_readCondition : notMH yX9_readCondition := ⟨by decide, by decide⟩
theorem wp_X9_readCondition : (parseMethodDescriptor yX9_readCondition.desc).map (fun d => d.parameters.length) = some 1 := by decide +kernel
theorem wd_948 : Cond.instanceMethod ({ cls := "UtilityBoard$Reader", name := "readCondition", desc := "(I)Z" } : MethodName) ∈ lw_ok := lw_ok_mem (tb_3 _ (List.mem_of_getElem? (i := 130) (by decide +kernel))) rfl
theorem wm_X9_readCondition : Cond.instanceMethod yX9_readCondition ∈ lw_ok := wd_948
theorem wd_35 : Cond.selects "UtilityBoard$Reader" ⟨"UtilityBoard$Reader", "readCondition", "(I)Z"⟩ ⟨"UtilityBoard$Reader", "readCondition", "(I)Z"⟩ ∈ lw_ok := lw_ok_mem (List.mem_append_left _ (List.mem_of_getElem? (i := 35) (by decide +kernel))) rfl
theorem ws_X9_readCondition : Cond.selects yX9_readCondition.cls yX9_readCondition yX9_readCondition ∈ lw_ok := wd_35
theorem wd_946 : Cond.methodLink "UtilityBoard$Reader" (82 : Nat) ({ cls := "UtilityBoard$Reader", name := "readCondition", desc := "(I)Z" } : MethodName) ∈ lw_ok := lw_ok_mem (tb_3 _ (List.mem_of_getElem? (i := 128) (by decide +kernel))) rfl
theorem cv_X9_82 : CVW RX9 82 yX9_readCondition.cls yX9_readCondition cX9_readCondition 6 (some .boolean) 1 := ⟨wd_946, wm_X9_readCondition, ws_X9_readCondition, wi_X9_readCondition, wc_X9_readCondition, wn_X9_readCondition, wp_X9_readCondition⟩
theorem wd_953 : Cond.code ({ cls := "UtilityBoard$Reader", name := "readPiece", desc := "(I)Z" } : MethodName) prog_11_method_5_code (4 : Nat) (Option.some .boolean) ∈ lw_ok := lw_ok_mem (tb_3 _ (List.mem_of_getElem? (i := 135) rfl)) rfl
theorem wc_X9_readPiece : Cond.code yX9_readPiece cX9_readPiece 4 (some .boolean) ∈ lw_ok := wd_953
theorem wi_X9_readPiece : Cond.initialized yX9_readPiece.cls ∈ lw_ok := wd_103
theorem wn_X9_readPiece : notMH yX9_readPiece := ⟨by decide, by decide⟩
theorem wp_X9_readPiece : (parseMethodDescriptor yX9_readPiece.desc).map (fun d => d.parameters.length) = some 1 := by decide +kernel
theorem wd_952 : Cond.instanceMethod ({ cls := "UtilityBoard$Reader", name := "readPiece", desc := "(I)Z" } : MethodName) ∈ lw_ok := lw_ok_mem (tb_3 _ (List.mem_of_getElem? (i := 134) (by decide +kernel))) rfl
theorem wm_X9_readPiece : Cond.instanceMethod yX9_readPiece ∈ lw_ok := wd_952
theorem wd_36 : Cond.selects "UtilityBoard$Reader" ⟨"UtilityBoard$Reader", "readPiece", "(I)Z"⟩ ⟨"UtilityBoard$Reader", "readPiece", "(I)Z"⟩ ∈ lw_ok := lw_ok_mem (List.mem_append_left _ (List.mem_of_getElem? (i := 36) (by decide +kernel))) rfl
theorem ws_X9_readPiece : Cond.selects yX9_readPiece.cls yX9_readPiece yX9_readPiece ∈ lw_ok := wd_36
theorem wd_950 : Cond.methodLink "UtilityBoard$Reader" (85 : Nat) ({ cls := "UtilityBoard$Reader", name := "readPiece", desc := "(I)Z" } : MethodName) ∈ lw_ok := lw_ok_mem (tb_3 _ (List.mem_of_getElem? (i := 132) (by decide +kernel))) rfl
theorem cv_X9_85 : CVW RX9 85 yX9_readPiece.cls yX9_readPiece cX9_readPiece 4 (some .boolean) 1 := ⟨wd_950, wm_X9_readPiece, ws_X9_readPiece, wi_X9_readPiece, wc_X9_readPiece, wn_X9_readPiece, wp_X9_readPiece⟩
theorem wd_957 : Cond.code ({ cls := "UtilityBoard$Reader", name := "emit", desc := "(II)Z" } : MethodName) prog_11_method_12_code (3 : Nat) (Option.some .boolean) ∈ lw_ok := lw_ok_mem (tb_3 _ (List.mem_of_getElem? (i := 139) rfl)) rfl
theorem wc_X9_emit : Cond.code yX9_emit cX9_emit 3 (some .boolean) ∈ lw_ok := wd_957
theorem wi_X9_emit : Cond.initialized yX9_emit.cls ∈ lw_ok := wd_103
theorem wn_X9_emit : notMH yX9_emit := ⟨by decide, by decide⟩
theorem wp_X9_emit : (parseMethodDescriptor yX9_emit.desc).map (fun d => d.parameters.length) = some 2 := by decide +kernel
theorem wd_956 : Cond.instanceMethod ({ cls := "UtilityBoard$Reader", name := "emit", desc := "(II)Z" } : MethodName) ∈ lw_ok := lw_ok_mem (tb_3 _ (List.mem_of_getElem? (i := 138) (by decide +kernel))) rfl
theorem wm_X9_emit : Cond.instanceMethod yX9_emit ∈ lw_ok := wd_956
theorem wd_37 : Cond.selects "UtilityBoard$Reader" ⟨"UtilityBoard$Reader", "emit", "(II)Z"⟩ ⟨"UtilityBoard$Reader", "emit", "(II)Z"⟩ ∈ lw_ok := lw_ok_mem (List.mem_append_left _ (List.mem_of_getElem? (i := 37) (by decide +kernel))) rfl
theorem ws_X9_emit : Cond.selects yX9_emit.cls yX9_emit yX9_emit ∈ lw_ok := wd_37
theorem wd_954 : Cond.methodLink "UtilityBoard$Reader" (88 : Nat) ({ cls := "UtilityBoard$Reader", name := "emit", desc := "(II)Z" } : MethodName) ∈ lw_ok := lw_ok_mem (tb_3 _ (List.mem_of_getElem? (i := 136) (by decide +kernel))) rfl
theorem cv_X9_88 : CVW RX9 88 yX9_emit.cls yX9_emit cX9_emit 3 (some .boolean) 2 := ⟨wd_954, wm_X9_emit, ws_X9_emit, wi_X9_emit, wc_X9_emit, wn_X9_emit, wp_X9_emit⟩
theorem wd_973 : Cond.code ({ cls := "UtilityBoard$Reader", name := "leadHere", desc := "(CI)V" } : MethodName) prog_11_method_13_code (4 : Nat) none ∈ lw_ok := lw_ok_mem (tb_3 _ (List.mem_of_getElem? (i := 155) rfl)) rfl
theorem wc_X9_leadHere : Cond.code yX9_leadHere cX9_leadHere 4 none ∈ lw_ok := wd_973
theorem wi_X9_leadHere : Cond.initialized yX9_leadHere.cls ∈ lw_ok := wd_103
theorem wn_X9_leadHere : notMH yX9_leadHere := ⟨by decide, by decide⟩
theorem wp_X9_leadHere : (parseMethodDescriptor yX9_leadHere.desc).map (fun d => d.parameters.length) = some 2 := by decide +kernel
theorem wd_972 : Cond.instanceMethod ({ cls := "UtilityBoard$Reader", name := "leadHere", desc := "(CI)V" } : MethodName) ∈ lw_ok := lw_ok_mem (tb_3 _ (List.mem_of_getElem? (i := 154) (by decide +kernel))) rfl
theorem wm_X9_leadHere : Cond.instanceMethod yX9_leadHere ∈ lw_ok := wd_972
theorem wd_40 : Cond.selects "UtilityBoard$Reader" ⟨"UtilityBoard$Reader", "leadHere", "(CI)V"⟩ ⟨"UtilityBoard$Reader", "leadHere", "(CI)V"⟩ ∈ lw_ok := lw_ok_mem (List.mem_append_left _ (List.mem_of_getElem? (i := 40) (by decide +kernel))) rfl
theorem ws_X9_leadHere : Cond.selects yX9_leadHere.cls yX9_leadHere yX9_leadHere ∈ lw_ok := wd_40
theorem wd_970 : Cond.methodLink "UtilityBoard$Reader" (92 : Nat) ({ cls := "UtilityBoard$Reader", name := "leadHere", desc := "(CI)V" } : MethodName) ∈ lw_ok := lw_ok_mem (tb_3 _ (List.mem_of_getElem? (i := 152) (by decide +kernel))) rfl
theorem cv_X9_92 : CVW RX9 92 yX9_leadHere.cls yX9_leadHere cX9_leadHere 4 none 2 := ⟨wd_970, wm_X9_leadHere, ws_X9_leadHere, wi_X9_leadHere, wc_X9_leadHere, wn_X9_leadHere, wp_X9_leadHere⟩
theorem wd_961 : Cond.code ({ cls := "UtilityBoard$Reader", name := "readSum", desc := "(I)Z" } : MethodName) prog_11_method_6_code (6 : Nat) (Option.some .boolean) ∈ lw_ok := lw_ok_mem (tb_3 _ (List.mem_of_getElem? (i := 143) rfl)) rfl
theorem wc_X9_readSum : Cond.code yX9_readSum cX9_readSum 6 (some .boolean) ∈ lw_ok := wd_961
theorem wi_X9_readSum : Cond.initialized yX9_readSum.cls ∈ lw_ok := wd_103
theorem wn_X9_readSum : notMH yX9_readSum := ⟨by decide, by decide⟩
theorem wp_X9_readSum : (parseMethodDescriptor yX9_readSum.desc).map (fun d => d.parameters.length) = some 1 := by decide +kernel
theorem wd_960 : Cond.instanceMethod ({ cls := "UtilityBoard$Reader", name := "readSum", desc := "(I)Z" } : MethodName) ∈ lw_ok := lw_ok_mem (tb_3 _ (List.mem_of_getElem? (i := 142) (by decide +kernel))) rfl
theorem wm_X9_readSum : Cond.instanceMethod yX9_readSum ∈ lw_ok := wd_960
theorem wd_38 : Cond.selects "UtilityBoard$Reader" ⟨"UtilityBoard$Reader", "readSum", "(I)Z"⟩ ⟨"UtilityBoard$Reader", "readSum", "(I)Z"⟩ ∈ lw_ok := lw_ok_mem (List.mem_append_left _ (List.mem_of_getElem? (i := 38) (by decide +kernel))) rfl
theorem ws_X9_readSum : Cond.selects yX9_readSum.cls yX9_readSum yX9_readSum ∈ lw_ok := wd_38
theorem wd_958 : Cond.methodLink "UtilityBoard$Reader" (96 : Nat) ({ cls := "UtilityBoard$Reader", name := "readSum", desc := "(I)Z" } : MethodName) ∈ lw_ok := lw_ok_mem (tb_3 _ (List.mem_of_getElem? (i := 140) (by decide +kernel))) rfl
theorem cv_X9_96 : CVW RX9 96 yX9_readSum.cls yX9_readSum cX9_readSum 6 (some .boolean) 1 := ⟨wd_958, wm_X9_readSum, ws_X9_readSum, wi_X9_readSum, wc_X9_readSum, wn_X9_readSum, wp_X9_readSum⟩
theorem wd_965 : Cond.code ({ cls := "UtilityBoard$Reader", name := "readFactor", desc := "(I)Z" } : MethodName) prog_11_method_7_code (4 : Nat) (Option.some .boolean) ∈ lw_ok := lw_ok_mem (tb_3 _ (List.mem_of_getElem? (i := 147) rfl)) rfl
theorem wc_X9_readFactor : Cond.code yX9_readFactor cX9_readFactor 4 (some .boolean) ∈ lw_ok := wd_965
theorem wi_X9_readFactor : Cond.initialized yX9_readFactor.cls ∈ lw_ok := wd_103
theorem wn_X9_readFactor : notMH yX9_readFactor := ⟨by decide, by decide⟩
theorem wp_X9_readFactor : (parseMethodDescriptor yX9_readFactor.desc).map (fun d => d.parameters.length) = some 1 := by decide +kernel
theorem wd_964 : Cond.instanceMethod ({ cls := "UtilityBoard$Reader", name := "readFactor", desc := "(I)Z" } : MethodName) ∈ lw_ok := lw_ok_mem (tb_3 _ (List.mem_of_getElem? (i := 146) (by decide +kernel))) rfl
theorem wm_X9_readFactor : Cond.instanceMethod yX9_readFactor ∈ lw_ok := wd_964
theorem wd_39 : Cond.selects "UtilityBoard$Reader" ⟨"UtilityBoard$Reader", "readFactor", "(I)Z"⟩ ⟨"UtilityBoard$Reader", "readFactor", "(I)Z"⟩ ∈ lw_ok := lw_ok_mem (List.mem_append_left _ (List.mem_of_getElem? (i := 39) (by decide +kernel))) rfl
theorem ws_X9_readFactor : Cond.selects yX9_readFactor.cls yX9_readFactor yX9_readFactor ∈ lw_ok := wd_39
theorem wd_962 : Cond.methodLink "UtilityBoard$Reader" (101 : Nat) ({ cls := "UtilityBoard$Reader", name := "readFactor", desc := "(I)Z" } : MethodName) ∈ lw_ok := lw_ok_mem (tb_3 _ (List.mem_of_getElem? (i := 144) (by decide +kernel))) rfl
theorem cv_X9_101 : CVW RX9 101 yX9_readFactor.cls yX9_readFactor cX9_readFactor 4 (some .boolean) 1 := ⟨wd_962, wm_X9_readFactor, ws_X9_readFactor, wi_X9_readFactor, wc_X9_readFactor, wn_X9_readFactor, wp_X9_readFactor⟩
theorem wd_853 : Cond.code ({ cls := "java/lang/String", name := "indexOf", desc := "(I)I" } : MethodName) prog_21_method_79_code (2 : Nat) (Option.some .int) ∈ lw_ok := lw_ok_mem (tb_3 _ (List.mem_of_getElem? (i := 35) rfl)) rfl
theorem wc_J0_indexOf_0f7a4 : Cond.code yJ0_indexOf_0f7a4 cJ0_indexOf_0f7a4 2 (some .int) ∈ lw_ok := wd_853
theorem wi_J0_indexOf_0f7a4 : Cond.initialized yJ0_indexOf_0f7a4.cls ∈ lw_ok := wd_118
theorem wn_J0_indexOf_0f7a4 : notMH yJ0_indexOf_0f7a4 := ⟨by decide, by decide⟩
theorem wp_J0_indexOf_0f7a4 : (parseMethodDescriptor yJ0_indexOf_0f7a4.desc).map (fun d => d.parameters.length) = some 1 := by decide +kernel
theorem wd_851 : Cond.instanceMethod ({ cls := "java/lang/String", name := "indexOf", desc := "(I)I" } : MethodName) ∈ lw_ok := lw_ok_mem (tb_3 _ (List.mem_of_getElem? (i := 33) (by decide +kernel))) rfl
theorem wm_J0_indexOf_0f7a4 : Cond.instanceMethod yJ0_indexOf_0f7a4 ∈ lw_ok := wd_851
theorem wd_852 : Cond.selects "java/lang/String" ({ cls := "java/lang/String", name := "indexOf", desc := "(I)I" } : MethodName) ({ cls := "java/lang/String", name := "indexOf", desc := "(I)I" } : MethodName) ∈ lw_ok := lw_ok_mem (tb_3 _ (List.mem_of_getElem? (i := 34) (by decide +kernel))) rfl
theorem ws_J0_indexOf_0f7a4 : Cond.selects yJ0_indexOf_0f7a4.cls yJ0_indexOf_0f7a4 yJ0_indexOf_0f7a4 ∈ lw_ok := wd_852
theorem wd_850 : Cond.methodLink "UtilityBoard$Reader" (110 : Nat) ({ cls := "java/lang/String", name := "indexOf", desc := "(I)I" } : MethodName) ∈ lw_ok := lw_ok_mem (tb_3 _ (List.mem_of_getElem? (i := 32) (by decide +kernel))) rfl
theorem cv_X9_110 : CVW RX9 110 yJ0_indexOf_0f7a4.cls yJ0_indexOf_0f7a4 cJ0_indexOf_0f7a4 2 (some .int) 1 := ⟨wd_850, wm_J0_indexOf_0f7a4, ws_J0_indexOf_0f7a4, wi_J0_indexOf_0f7a4, wc_J0_indexOf_0f7a4, wn_J0_indexOf_0f7a4, wp_J0_indexOf_0f7a4⟩
theorem wd_725 : Cond.methodLink "UtilityBoard$Thing" (48 : Nat) ({ cls := "java/lang/Math", name := "max", desc := "(II)I" } : MethodName) ∈ lw_ok := lw_ok_mem (tb_2 _ (List.mem_of_getElem? (i := 147) (by decide +kernel))) rfl
theorem cs_X10_48 : CSW RX10 48 yJ9_max_7cf53 cJ9_max_7cf53 2 (some .int) 2 := ⟨wd_725, wt_J9_max_7cf53, wi_J9_max_7cf53, wc_J9_max_7cf53, wn_J9_max_7cf53, wp_J9_max_7cf53⟩
theorem wd_130 : Cond.code ({ cls := "UtilityBoard", name := "<init>", desc := "()V" } : MethodName) prog_1_method_1_code (1 : Nat) none ∈ lw_ok := lw_ok_mem (tb_0 _ (List.mem_of_getElem? (i := 32) rfl)) rfl
theorem wc_X11_init : Cond.code yX11_init cX11_init 1 none ∈ lw_ok := wd_130
theorem wi_X11_init : Cond.initialized yX11_init.cls ∈ lw_ok := wd_99
theorem wn_X11_init : notMH yX11_init := ⟨by decide, by decide⟩
theorem wp_X11_init : (parseMethodDescriptor yX11_init.desc).map (fun d => d.parameters.length) = some 0 := by decide +kernel
theorem wd_129 : Cond.instanceMethod ({ cls := "UtilityBoard", name := "<init>", desc := "()V" } : MethodName) ∈ lw_ok := lw_ok_mem (tb_0 _ (List.mem_of_getElem? (i := 31) (by decide +kernel))) rfl
theorem wm_X11_init : Cond.instanceMethod yX11_init ∈ lw_ok := wd_129
theorem wd_128 : Cond.methodLink "UtilityBoardLaw" (9 : Nat) ({ cls := "UtilityBoard", name := "<init>", desc := "()V" } : MethodName) ∈ lw_ok := lw_ok_mem (tb_0 _ (List.mem_of_getElem? (i := 30) (by decide +kernel))) rfl
theorem ci__law_9 : CIW "UtilityBoardLaw" 9 yX11_init cX11_init 1 0 := ⟨wd_128, wm_X11_init, wi_X11_init, wc_X11_init, rfl, wn_X11_init, wp_X11_init⟩
theorem wd_1280 : Cond.code ({ cls := "UtilityBoardModel", name := "<init>", desc := "()V" } : MethodName) prog_14_method_1_code (1 : Nat) none ∈ lw_ok := lw_ok_mem (tb_4 _ (List.mem_of_getElem? (i := 222) rfl)) rfl
theorem wc_X12_init : Cond.code yX12_init cX12_init 1 none ∈ lw_ok := wd_1280
theorem wd_106 : Cond.initialized "UtilityBoardModel" ∈ lw_ok := lw_ok_mem (tb_0 _ (List.mem_of_getElem? (i := 8) (by decide +kernel))) rfl
theorem wi_X12_init : Cond.initialized yX12_init.cls ∈ lw_ok := wd_106
theorem wn_X12_init : notMH yX12_init := ⟨by decide, by decide⟩
theorem wp_X12_init : (parseMethodDescriptor yX12_init.desc).map (fun d => d.parameters.length) = some 0 := by decide +kernel
theorem wd_1279 : Cond.instanceMethod ({ cls := "UtilityBoardModel", name := "<init>", desc := "()V" } : MethodName) ∈ lw_ok := lw_ok_mem (tb_4 _ (List.mem_of_getElem? (i := 221) (by decide +kernel))) rfl
theorem wm_X12_init : Cond.instanceMethod yX12_init ∈ lw_ok := wd_1279
theorem wd_1278 : Cond.methodLink "UtilityBoardLaw" (12 : Nat) ({ cls := "UtilityBoardModel", name := "<init>", desc := "()V" } : MethodName) ∈ lw_ok := lw_ok_mem (tb_4 _ (List.mem_of_getElem? (i := 220) (by decide +kernel))) rfl
theorem ci__law_12 : CIW "UtilityBoardLaw" 12 yX12_init cX12_init 1 0 := ⟨wd_1278, wm_X12_init, wi_X12_init, wc_X12_init, rfl, wn_X12_init, wp_X12_init⟩
theorem wd_331 : Cond.code ({ cls := "UtilityBoard", name := "goes", desc := "()I" } : MethodName) prog_1_method_2_code (4 : Nat) (Option.some .int) ∈ lw_ok := lw_ok_mem (tb_0 _ (List.mem_of_getElem? (i := 233) rfl)) rfl
theorem wc_X11_goes : Cond.code yX11_goes cX11_goes 4 (some .int) ∈ lw_ok := wd_331
theorem wi_X11_goes : Cond.initialized yX11_goes.cls ∈ lw_ok := wd_99
theorem wn_X11_goes : notMH yX11_goes := ⟨by decide, by decide⟩
theorem wp_X11_goes : (parseMethodDescriptor yX11_goes.desc).map (fun d => d.parameters.length) = some 0 := by decide +kernel
theorem wd_329 : Cond.instanceMethod ({ cls := "UtilityBoard", name := "goes", desc := "()I" } : MethodName) ∈ lw_ok := lw_ok_mem (tb_0 _ (List.mem_of_getElem? (i := 231) (by decide +kernel))) rfl
theorem wm_X11_goes : Cond.instanceMethod yX11_goes ∈ lw_ok := wd_329
theorem wd_330 : Cond.selects "UtilityBoard" ({ cls := "UtilityBoard", name := "goes", desc := "()I" } : MethodName) ({ cls := "UtilityBoard", name := "goes", desc := "()I" } : MethodName) ∈ lw_ok := lw_ok_mem (tb_0 _ (List.mem_of_getElem? (i := 232) (by decide +kernel))) rfl
theorem ws_X11_goes : Cond.selects yX11_goes.cls yX11_goes yX11_goes ∈ lw_ok := wd_330
theorem wd_328 : Cond.methodLink "UtilityBoardLaw" (13 : Nat) ({ cls := "UtilityBoard", name := "goes", desc := "()I" } : MethodName) ∈ lw_ok := lw_ok_mem (tb_0 _ (List.mem_of_getElem? (i := 230) (by decide +kernel))) rfl
theorem cv__law_13 : CVW "UtilityBoardLaw" 13 yX11_goes.cls yX11_goes cX11_goes 4 (some .int) 0 := ⟨wd_328, wm_X11_goes, ws_X11_goes, wi_X11_goes, wc_X11_goes, wn_X11_goes, wp_X11_goes⟩
theorem wd_1844 : Cond.code ({ cls := "UtilityBoardModel", name := "goes", desc := "()I" } : MethodName) prog_14_method_71_code (3 : Nat) (Option.some .int) ∈ lw_ok := lw_ok_mem (tb_7 _ (List.mem_of_getElem? (i := 66) rfl)) rfl
theorem wc_X12_goes : Cond.code yX12_goes cX12_goes 3 (some .int) ∈ lw_ok := wd_1844
theorem wi_X12_goes : Cond.initialized yX12_goes.cls ∈ lw_ok := wd_106
theorem wn_X12_goes : notMH yX12_goes := ⟨by decide, by decide⟩
theorem wp_X12_goes : (parseMethodDescriptor yX12_goes.desc).map (fun d => d.parameters.length) = some 0 := by decide +kernel
theorem wd_1842 : Cond.instanceMethod ({ cls := "UtilityBoardModel", name := "goes", desc := "()I" } : MethodName) ∈ lw_ok := lw_ok_mem (tb_7 _ (List.mem_of_getElem? (i := 64) (by decide +kernel))) rfl
theorem wm_X12_goes : Cond.instanceMethod yX12_goes ∈ lw_ok := wd_1842
theorem wd_1843 : Cond.selects "UtilityBoardModel" ({ cls := "UtilityBoardModel", name := "goes", desc := "()I" } : MethodName) ({ cls := "UtilityBoardModel", name := "goes", desc := "()I" } : MethodName) ∈ lw_ok := lw_ok_mem (tb_7 _ (List.mem_of_getElem? (i := 65) (by decide +kernel))) rfl
theorem ws_X12_goes : Cond.selects yX12_goes.cls yX12_goes yX12_goes ∈ lw_ok := wd_1843
theorem wd_1841 : Cond.methodLink "UtilityBoardLaw" (17 : Nat) ({ cls := "UtilityBoardModel", name := "goes", desc := "()I" } : MethodName) ∈ lw_ok := lw_ok_mem (tb_7 _ (List.mem_of_getElem? (i := 63) (by decide +kernel))) rfl
theorem cv__law_17 : CVW "UtilityBoardLaw" 17 yX12_goes.cls yX12_goes cX12_goes 3 (some .int) 0 := ⟨wd_1841, wm_X12_goes, ws_X12_goes, wi_X12_goes, wc_X12_goes, wn_X12_goes, wp_X12_goes⟩
theorem wd_409 : Cond.code ({ cls := "UtilityBoard", name := "cloth", desc := "(III)I" } : MethodName) prog_1_method_3_code (4 : Nat) (Option.some .int) ∈ lw_ok := lw_ok_mem (tb_1 _ (List.mem_of_getElem? (i := 71) rfl)) rfl
theorem wc_X11_cloth : Cond.code yX11_cloth cX11_cloth 4 (some .int) ∈ lw_ok := wd_409
theorem wi_X11_cloth : Cond.initialized yX11_cloth.cls ∈ lw_ok := wd_99
theorem wn_X11_cloth : notMH yX11_cloth := ⟨by decide, by decide⟩
theorem wp_X11_cloth : (parseMethodDescriptor yX11_cloth.desc).map (fun d => d.parameters.length) = some 3 := by decide +kernel
theorem wd_407 : Cond.instanceMethod ({ cls := "UtilityBoard", name := "cloth", desc := "(III)I" } : MethodName) ∈ lw_ok := lw_ok_mem (tb_1 _ (List.mem_of_getElem? (i := 69) (by decide +kernel))) rfl
theorem wm_X11_cloth : Cond.instanceMethod yX11_cloth ∈ lw_ok := wd_407
theorem wd_408 : Cond.selects "UtilityBoard" ({ cls := "UtilityBoard", name := "cloth", desc := "(III)I" } : MethodName) ({ cls := "UtilityBoard", name := "cloth", desc := "(III)I" } : MethodName) ∈ lw_ok := lw_ok_mem (tb_1 _ (List.mem_of_getElem? (i := 70) (by decide +kernel))) rfl
theorem ws_X11_cloth : Cond.selects yX11_cloth.cls yX11_cloth yX11_cloth ∈ lw_ok := wd_408
theorem wd_406 : Cond.methodLink "UtilityBoardLaw" (18 : Nat) ({ cls := "UtilityBoard", name := "cloth", desc := "(III)I" } : MethodName) ∈ lw_ok := lw_ok_mem (tb_1 _ (List.mem_of_getElem? (i := 68) (by decide +kernel))) rfl
theorem cv__law_18 : CVW "UtilityBoardLaw" 18 yX11_cloth.cls yX11_cloth cX11_cloth 4 (some .int) 3 := ⟨wd_406, wm_X11_cloth, ws_X11_cloth, wi_X11_cloth, wc_X11_cloth, wn_X11_cloth, wp_X11_cloth⟩
theorem wd_1573 : Cond.code ({ cls := "UtilityBoardModel", name := "cloth", desc := "(III)I" } : MethodName) prog_14_method_8_code (5 : Nat) (Option.some .int) ∈ lw_ok := lw_ok_mem (tb_6 _ (List.mem_of_getElem? (i := 35) rfl)) rfl
theorem wc_X12_cloth : Cond.code yX12_cloth cX12_cloth 5 (some .int) ∈ lw_ok := wd_1573
theorem wi_X12_cloth : Cond.initialized yX12_cloth.cls ∈ lw_ok := wd_106
theorem wn_X12_cloth : notMH yX12_cloth := ⟨by decide, by decide⟩
theorem wp_X12_cloth : (parseMethodDescriptor yX12_cloth.desc).map (fun d => d.parameters.length) = some 3 := by decide +kernel
theorem wd_1571 : Cond.instanceMethod ({ cls := "UtilityBoardModel", name := "cloth", desc := "(III)I" } : MethodName) ∈ lw_ok := lw_ok_mem (tb_6 _ (List.mem_of_getElem? (i := 33) (by decide +kernel))) rfl
theorem wm_X12_cloth : Cond.instanceMethod yX12_cloth ∈ lw_ok := wd_1571
theorem wd_1572 : Cond.selects "UtilityBoardModel" ({ cls := "UtilityBoardModel", name := "cloth", desc := "(III)I" } : MethodName) ({ cls := "UtilityBoardModel", name := "cloth", desc := "(III)I" } : MethodName) ∈ lw_ok := lw_ok_mem (tb_6 _ (List.mem_of_getElem? (i := 34) (by decide +kernel))) rfl
theorem ws_X12_cloth : Cond.selects yX12_cloth.cls yX12_cloth yX12_cloth ∈ lw_ok := wd_1572
theorem wd_1570 : Cond.methodLink "UtilityBoardLaw" (22 : Nat) ({ cls := "UtilityBoardModel", name := "cloth", desc := "(III)I" } : MethodName) ∈ lw_ok := lw_ok_mem (tb_6 _ (List.mem_of_getElem? (i := 32) (by decide +kernel))) rfl
theorem cv__law_22 : CVW "UtilityBoardLaw" 22 yX12_cloth.cls yX12_cloth cX12_cloth 5 (some .int) 3 := ⟨wd_1570, wm_X12_cloth, ws_X12_cloth, wi_X12_cloth, wc_X12_cloth, wn_X12_cloth, wp_X12_cloth⟩
theorem wd_498 : Cond.code ({ cls := "UtilityBoard", name := "drawing", desc := "(I)I" } : MethodName) prog_1_method_4_code (2 : Nat) (Option.some .int) ∈ lw_ok := lw_ok_mem (tb_1 _ (List.mem_of_getElem? (i := 160) rfl)) rfl
theorem wc_X11_drawing : Cond.code yX11_drawing cX11_drawing 2 (some .int) ∈ lw_ok := wd_498
theorem wi_X11_drawing : Cond.initialized yX11_drawing.cls ∈ lw_ok := wd_99
theorem wn_X11_drawing : notMH yX11_drawing := ⟨by decide, by decide⟩
theorem wp_X11_drawing : (parseMethodDescriptor yX11_drawing.desc).map (fun d => d.parameters.length) = some 1 := by decide +kernel
theorem wd_496 : Cond.instanceMethod ({ cls := "UtilityBoard", name := "drawing", desc := "(I)I" } : MethodName) ∈ lw_ok := lw_ok_mem (tb_1 _ (List.mem_of_getElem? (i := 158) (by decide +kernel))) rfl
theorem wm_X11_drawing : Cond.instanceMethod yX11_drawing ∈ lw_ok := wd_496
theorem wd_497 : Cond.selects "UtilityBoard" ({ cls := "UtilityBoard", name := "drawing", desc := "(I)I" } : MethodName) ({ cls := "UtilityBoard", name := "drawing", desc := "(I)I" } : MethodName) ∈ lw_ok := lw_ok_mem (tb_1 _ (List.mem_of_getElem? (i := 159) (by decide +kernel))) rfl
theorem ws_X11_drawing : Cond.selects yX11_drawing.cls yX11_drawing yX11_drawing ∈ lw_ok := wd_497
theorem wd_495 : Cond.methodLink "UtilityBoardLaw" (23 : Nat) ({ cls := "UtilityBoard", name := "drawing", desc := "(I)I" } : MethodName) ∈ lw_ok := lw_ok_mem (tb_1 _ (List.mem_of_getElem? (i := 157) (by decide +kernel))) rfl
theorem cv__law_23 : CVW "UtilityBoardLaw" 23 yX11_drawing.cls yX11_drawing cX11_drawing 2 (some .int) 1 := ⟨wd_495, wm_X11_drawing, ws_X11_drawing, wi_X11_drawing, wc_X11_drawing, wn_X11_drawing, wp_X11_drawing⟩
theorem wd_1580 : Cond.code ({ cls := "UtilityBoardModel", name := "drawing", desc := "(I)I" } : MethodName) prog_14_method_9_code (2 : Nat) (Option.some .int) ∈ lw_ok := lw_ok_mem (tb_6 _ (List.mem_of_getElem? (i := 42) rfl)) rfl
theorem wc_X12_drawing : Cond.code yX12_drawing cX12_drawing 2 (some .int) ∈ lw_ok := wd_1580
theorem wi_X12_drawing : Cond.initialized yX12_drawing.cls ∈ lw_ok := wd_106
theorem wn_X12_drawing : notMH yX12_drawing := ⟨by decide, by decide⟩
theorem wp_X12_drawing : (parseMethodDescriptor yX12_drawing.desc).map (fun d => d.parameters.length) = some 1 := by decide +kernel
theorem wd_1578 : Cond.instanceMethod ({ cls := "UtilityBoardModel", name := "drawing", desc := "(I)I" } : MethodName) ∈ lw_ok := lw_ok_mem (tb_6 _ (List.mem_of_getElem? (i := 40) (by decide +kernel))) rfl
theorem wm_X12_drawing : Cond.instanceMethod yX12_drawing ∈ lw_ok := wd_1578
theorem wd_1579 : Cond.selects "UtilityBoardModel" ({ cls := "UtilityBoardModel", name := "drawing", desc := "(I)I" } : MethodName) ({ cls := "UtilityBoardModel", name := "drawing", desc := "(I)I" } : MethodName) ∈ lw_ok := lw_ok_mem (tb_6 _ (List.mem_of_getElem? (i := 41) (by decide +kernel))) rfl
theorem ws_X12_drawing : Cond.selects yX12_drawing.cls yX12_drawing yX12_drawing ∈ lw_ok := wd_1579
theorem wd_1577 : Cond.methodLink "UtilityBoardLaw" (27 : Nat) ({ cls := "UtilityBoardModel", name := "drawing", desc := "(I)I" } : MethodName) ∈ lw_ok := lw_ok_mem (tb_6 _ (List.mem_of_getElem? (i := 39) (by decide +kernel))) rfl
theorem cv__law_27 : CVW "UtilityBoardLaw" 27 yX12_drawing.cls yX12_drawing cX12_drawing 2 (some .int) 1 := ⟨wd_1577, wm_X12_drawing, ws_X12_drawing, wi_X12_drawing, wc_X12_drawing, wn_X12_drawing, wp_X12_drawing⟩
theorem wd_559 : Cond.code ({ cls := "UtilityBoard", name := "stick", desc := "(IIII)I" } : MethodName) prog_1_method_5_code (6 : Nat) (Option.some .int) ∈ lw_ok := lw_ok_mem (tb_1 _ (List.mem_of_getElem? (i := 221) rfl)) rfl
theorem wc_X11_stick : Cond.code yX11_stick cX11_stick 6 (some .int) ∈ lw_ok := wd_559
theorem wi_X11_stick : Cond.initialized yX11_stick.cls ∈ lw_ok := wd_99
theorem wn_X11_stick : notMH yX11_stick := ⟨by decide, by decide⟩
theorem wp_X11_stick : (parseMethodDescriptor yX11_stick.desc).map (fun d => d.parameters.length) = some 4 := by decide +kernel
theorem wd_557 : Cond.instanceMethod ({ cls := "UtilityBoard", name := "stick", desc := "(IIII)I" } : MethodName) ∈ lw_ok := lw_ok_mem (tb_1 _ (List.mem_of_getElem? (i := 219) (by decide +kernel))) rfl
theorem wm_X11_stick : Cond.instanceMethod yX11_stick ∈ lw_ok := wd_557
theorem wd_558 : Cond.selects "UtilityBoard" ({ cls := "UtilityBoard", name := "stick", desc := "(IIII)I" } : MethodName) ({ cls := "UtilityBoard", name := "stick", desc := "(IIII)I" } : MethodName) ∈ lw_ok := lw_ok_mem (tb_1 _ (List.mem_of_getElem? (i := 220) (by decide +kernel))) rfl
theorem ws_X11_stick : Cond.selects yX11_stick.cls yX11_stick yX11_stick ∈ lw_ok := wd_558
theorem wd_556 : Cond.methodLink "UtilityBoardLaw" (28 : Nat) ({ cls := "UtilityBoard", name := "stick", desc := "(IIII)I" } : MethodName) ∈ lw_ok := lw_ok_mem (tb_1 _ (List.mem_of_getElem? (i := 218) (by decide +kernel))) rfl
theorem cv__law_28 : CVW "UtilityBoardLaw" 28 yX11_stick.cls yX11_stick cX11_stick 6 (some .int) 4 := ⟨wd_556, wm_X11_stick, ws_X11_stick, wi_X11_stick, wc_X11_stick, wn_X11_stick, wp_X11_stick⟩
theorem wd_1584 : Cond.code ({ cls := "UtilityBoardModel", name := "stick", desc := "(IIII)I" } : MethodName) prog_14_method_10_code (6 : Nat) (Option.some .int) ∈ lw_ok := lw_ok_mem (tb_6 _ (List.mem_of_getElem? (i := 46) rfl)) rfl
theorem wc_X12_stick : Cond.code yX12_stick cX12_stick 6 (some .int) ∈ lw_ok := wd_1584
theorem wi_X12_stick : Cond.initialized yX12_stick.cls ∈ lw_ok := wd_106
theorem wn_X12_stick : notMH yX12_stick := ⟨by decide, by decide⟩
theorem wp_X12_stick : (parseMethodDescriptor yX12_stick.desc).map (fun d => d.parameters.length) = some 4 := by decide +kernel
theorem wd_1582 : Cond.instanceMethod ({ cls := "UtilityBoardModel", name := "stick", desc := "(IIII)I" } : MethodName) ∈ lw_ok := lw_ok_mem (tb_6 _ (List.mem_of_getElem? (i := 44) (by decide +kernel))) rfl
theorem wm_X12_stick : Cond.instanceMethod yX12_stick ∈ lw_ok := wd_1582
theorem wd_1583 : Cond.selects "UtilityBoardModel" ({ cls := "UtilityBoardModel", name := "stick", desc := "(IIII)I" } : MethodName) ({ cls := "UtilityBoardModel", name := "stick", desc := "(IIII)I" } : MethodName) ∈ lw_ok := lw_ok_mem (tb_6 _ (List.mem_of_getElem? (i := 45) (by decide +kernel))) rfl
theorem ws_X12_stick : Cond.selects yX12_stick.cls yX12_stick yX12_stick ∈ lw_ok := wd_1583
theorem wd_1581 : Cond.methodLink "UtilityBoardLaw" (32 : Nat) ({ cls := "UtilityBoardModel", name := "stick", desc := "(IIII)I" } : MethodName) ∈ lw_ok := lw_ok_mem (tb_6 _ (List.mem_of_getElem? (i := 43) (by decide +kernel))) rfl
theorem cv__law_32 : CVW "UtilityBoardLaw" 32 yX12_stick.cls yX12_stick cX12_stick 6 (some .int) 4 := ⟨wd_1581, wm_X12_stick, ws_X12_stick, wi_X12_stick, wc_X12_stick, wn_X12_stick, wp_X12_stick⟩
theorem wd_572 : Cond.code ({ cls := "UtilityBoard", name := "load", desc := "(III)Z" } : MethodName) prog_1_method_6_code (5 : Nat) (Option.some .boolean) ∈ lw_ok := lw_ok_mem (tb_1 _ (List.mem_of_getElem? (i := 234) rfl)) rfl
theorem wc_X11_load : Cond.code yX11_load cX11_load 5 (some .boolean) ∈ lw_ok := wd_572
theorem wi_X11_load : Cond.initialized yX11_load.cls ∈ lw_ok := wd_99
theorem wn_X11_load : notMH yX11_load := ⟨by decide, by decide⟩
theorem wp_X11_load : (parseMethodDescriptor yX11_load.desc).map (fun d => d.parameters.length) = some 3 := by decide +kernel
theorem wd_570 : Cond.instanceMethod ({ cls := "UtilityBoard", name := "load", desc := "(III)Z" } : MethodName) ∈ lw_ok := lw_ok_mem (tb_1 _ (List.mem_of_getElem? (i := 232) (by decide +kernel))) rfl
theorem wm_X11_load : Cond.instanceMethod yX11_load ∈ lw_ok := wd_570
theorem wd_571 : Cond.selects "UtilityBoard" ({ cls := "UtilityBoard", name := "load", desc := "(III)Z" } : MethodName) ({ cls := "UtilityBoard", name := "load", desc := "(III)Z" } : MethodName) ∈ lw_ok := lw_ok_mem (tb_1 _ (List.mem_of_getElem? (i := 233) (by decide +kernel))) rfl
theorem ws_X11_load : Cond.selects yX11_load.cls yX11_load yX11_load ∈ lw_ok := wd_571
theorem wd_569 : Cond.methodLink "UtilityBoardLaw" (33 : Nat) ({ cls := "UtilityBoard", name := "load", desc := "(III)Z" } : MethodName) ∈ lw_ok := lw_ok_mem (tb_1 _ (List.mem_of_getElem? (i := 231) (by decide +kernel))) rfl
theorem cv__law_33 : CVW "UtilityBoardLaw" 33 yX11_load.cls yX11_load cX11_load 5 (some .boolean) 3 := ⟨wd_569, wm_X11_load, ws_X11_load, wi_X11_load, wc_X11_load, wn_X11_load, wp_X11_load⟩
theorem wd_1592 : Cond.code ({ cls := "UtilityBoardModel", name := "load", desc := "(III)Z" } : MethodName) prog_14_method_11_code (4 : Nat) (Option.some .boolean) ∈ lw_ok := lw_ok_mem (tb_6 _ (List.mem_of_getElem? (i := 54) rfl)) rfl
theorem wc_X12_load : Cond.code yX12_load cX12_load 4 (some .boolean) ∈ lw_ok := wd_1592
theorem wi_X12_load : Cond.initialized yX12_load.cls ∈ lw_ok := wd_106
theorem wn_X12_load : notMH yX12_load := ⟨by decide, by decide⟩
theorem wp_X12_load : (parseMethodDescriptor yX12_load.desc).map (fun d => d.parameters.length) = some 3 := by decide +kernel
theorem wd_1590 : Cond.instanceMethod ({ cls := "UtilityBoardModel", name := "load", desc := "(III)Z" } : MethodName) ∈ lw_ok := lw_ok_mem (tb_6 _ (List.mem_of_getElem? (i := 52) (by decide +kernel))) rfl
theorem wm_X12_load : Cond.instanceMethod yX12_load ∈ lw_ok := wd_1590
theorem wd_1591 : Cond.selects "UtilityBoardModel" ({ cls := "UtilityBoardModel", name := "load", desc := "(III)Z" } : MethodName) ({ cls := "UtilityBoardModel", name := "load", desc := "(III)Z" } : MethodName) ∈ lw_ok := lw_ok_mem (tb_6 _ (List.mem_of_getElem? (i := 53) (by decide +kernel))) rfl
theorem ws_X12_load : Cond.selects yX12_load.cls yX12_load yX12_load ∈ lw_ok := wd_1591
theorem wd_1589 : Cond.methodLink "UtilityBoardLaw" (37 : Nat) ({ cls := "UtilityBoardModel", name := "load", desc := "(III)Z" } : MethodName) ∈ lw_ok := lw_ok_mem (tb_6 _ (List.mem_of_getElem? (i := 51) (by decide +kernel))) rfl
theorem cv__law_37 : CVW "UtilityBoardLaw" 37 yX12_load.cls yX12_load cX12_load 4 (some .boolean) 3 := ⟨wd_1589, wm_X12_load, ws_X12_load, wi_X12_load, wc_X12_load, wn_X12_load, wp_X12_load⟩
theorem wd_580 : Cond.code ({ cls := "UtilityBoard", name := "bears", desc := "(I)I" } : MethodName) prog_1_method_7_code (3 : Nat) (Option.some .int) ∈ lw_ok := lw_ok_mem (tb_2 _ (List.mem_of_getElem? (i := 2) rfl)) rfl
theorem wc_X11_bears : Cond.code yX11_bears cX11_bears 3 (some .int) ∈ lw_ok := wd_580
theorem wi_X11_bears : Cond.initialized yX11_bears.cls ∈ lw_ok := wd_99
theorem wn_X11_bears : notMH yX11_bears := ⟨by decide, by decide⟩
theorem wp_X11_bears : (parseMethodDescriptor yX11_bears.desc).map (fun d => d.parameters.length) = some 1 := by decide +kernel
theorem wd_578 : Cond.instanceMethod ({ cls := "UtilityBoard", name := "bears", desc := "(I)I" } : MethodName) ∈ lw_ok := lw_ok_mem (tb_2 _ (List.mem_of_getElem? (i := 0) (by decide +kernel))) rfl
theorem wm_X11_bears : Cond.instanceMethod yX11_bears ∈ lw_ok := wd_578
theorem wd_579 : Cond.selects "UtilityBoard" ({ cls := "UtilityBoard", name := "bears", desc := "(I)I" } : MethodName) ({ cls := "UtilityBoard", name := "bears", desc := "(I)I" } : MethodName) ∈ lw_ok := lw_ok_mem (tb_2 _ (List.mem_of_getElem? (i := 1) (by decide +kernel))) rfl
theorem ws_X11_bears : Cond.selects yX11_bears.cls yX11_bears yX11_bears ∈ lw_ok := wd_579
theorem wd_577 : Cond.methodLink "UtilityBoardLaw" (38 : Nat) ({ cls := "UtilityBoard", name := "bears", desc := "(I)I" } : MethodName) ∈ lw_ok := lw_ok_mem (tb_1 _ (List.mem_of_getElem? (i := 239) (by decide +kernel))) rfl
theorem cv__law_38 : CVW "UtilityBoardLaw" 38 yX11_bears.cls yX11_bears cX11_bears 3 (some .int) 1 := ⟨wd_577, wm_X11_bears, ws_X11_bears, wi_X11_bears, wc_X11_bears, wn_X11_bears, wp_X11_bears⟩
theorem wd_1596 : Cond.code ({ cls := "UtilityBoardModel", name := "bears", desc := "(I)I" } : MethodName) prog_14_method_16_code (3 : Nat) (Option.some .int) ∈ lw_ok := lw_ok_mem (tb_6 _ (List.mem_of_getElem? (i := 58) rfl)) rfl
theorem wc_X12_bears : Cond.code yX12_bears cX12_bears 3 (some .int) ∈ lw_ok := wd_1596
theorem wi_X12_bears : Cond.initialized yX12_bears.cls ∈ lw_ok := wd_106
theorem wn_X12_bears : notMH yX12_bears := ⟨by decide, by decide⟩
theorem wp_X12_bears : (parseMethodDescriptor yX12_bears.desc).map (fun d => d.parameters.length) = some 1 := by decide +kernel
theorem wd_1594 : Cond.instanceMethod ({ cls := "UtilityBoardModel", name := "bears", desc := "(I)I" } : MethodName) ∈ lw_ok := lw_ok_mem (tb_6 _ (List.mem_of_getElem? (i := 56) (by decide +kernel))) rfl
theorem wm_X12_bears : Cond.instanceMethod yX12_bears ∈ lw_ok := wd_1594
theorem wd_1595 : Cond.selects "UtilityBoardModel" ({ cls := "UtilityBoardModel", name := "bears", desc := "(I)I" } : MethodName) ({ cls := "UtilityBoardModel", name := "bears", desc := "(I)I" } : MethodName) ∈ lw_ok := lw_ok_mem (tb_6 _ (List.mem_of_getElem? (i := 57) (by decide +kernel))) rfl
theorem ws_X12_bears : Cond.selects yX12_bears.cls yX12_bears yX12_bears ∈ lw_ok := wd_1595
theorem wd_1593 : Cond.methodLink "UtilityBoardLaw" (41 : Nat) ({ cls := "UtilityBoardModel", name := "bears", desc := "(I)I" } : MethodName) ∈ lw_ok := lw_ok_mem (tb_6 _ (List.mem_of_getElem? (i := 55) (by decide +kernel))) rfl
theorem cv__law_41 : CVW "UtilityBoardLaw" 41 yX12_bears.cls yX12_bears cX12_bears 3 (some .int) 1 := ⟨wd_1593, wm_X12_bears, ws_X12_bears, wi_X12_bears, wc_X12_bears, wn_X12_bears, wp_X12_bears⟩
theorem wd_621 : Cond.code ({ cls := "UtilityBoard", name := "cheapest", desc := "(II)I" } : MethodName) prog_1_method_8_code (5 : Nat) (Option.some .int) ∈ lw_ok := lw_ok_mem (tb_2 _ (List.mem_of_getElem? (i := 43) rfl)) rfl
theorem wc_X11_cheapest : Cond.code yX11_cheapest cX11_cheapest 5 (some .int) ∈ lw_ok := wd_621
theorem wi_X11_cheapest : Cond.initialized yX11_cheapest.cls ∈ lw_ok := wd_99
theorem wn_X11_cheapest : notMH yX11_cheapest := ⟨by decide, by decide⟩
theorem wp_X11_cheapest : (parseMethodDescriptor yX11_cheapest.desc).map (fun d => d.parameters.length) = some 2 := by decide +kernel
theorem wd_619 : Cond.instanceMethod ({ cls := "UtilityBoard", name := "cheapest", desc := "(II)I" } : MethodName) ∈ lw_ok := lw_ok_mem (tb_2 _ (List.mem_of_getElem? (i := 41) (by decide +kernel))) rfl
theorem wm_X11_cheapest : Cond.instanceMethod yX11_cheapest ∈ lw_ok := wd_619
theorem wd_620 : Cond.selects "UtilityBoard" ({ cls := "UtilityBoard", name := "cheapest", desc := "(II)I" } : MethodName) ({ cls := "UtilityBoard", name := "cheapest", desc := "(II)I" } : MethodName) ∈ lw_ok := lw_ok_mem (tb_2 _ (List.mem_of_getElem? (i := 42) (by decide +kernel))) rfl
theorem ws_X11_cheapest : Cond.selects yX11_cheapest.cls yX11_cheapest yX11_cheapest ∈ lw_ok := wd_620
theorem wd_618 : Cond.methodLink "UtilityBoardLaw" (42 : Nat) ({ cls := "UtilityBoard", name := "cheapest", desc := "(II)I" } : MethodName) ∈ lw_ok := lw_ok_mem (tb_2 _ (List.mem_of_getElem? (i := 40) (by decide +kernel))) rfl
theorem cv__law_42 : CVW "UtilityBoardLaw" 42 yX11_cheapest.cls yX11_cheapest cX11_cheapest 5 (some .int) 2 := ⟨wd_618, wm_X11_cheapest, ws_X11_cheapest, wi_X11_cheapest, wc_X11_cheapest, wn_X11_cheapest, wp_X11_cheapest⟩
theorem wd_1612 : Cond.code ({ cls := "UtilityBoardModel", name := "cheapest", desc := "(II)I" } : MethodName) prog_14_method_17_code (10 : Nat) (Option.some .int) ∈ lw_ok := lw_ok_mem (tb_6 _ (List.mem_of_getElem? (i := 74) rfl)) rfl
theorem wc_X12_cheapest : Cond.code yX12_cheapest cX12_cheapest 10 (some .int) ∈ lw_ok := wd_1612
theorem wi_X12_cheapest : Cond.initialized yX12_cheapest.cls ∈ lw_ok := wd_106
theorem wn_X12_cheapest : notMH yX12_cheapest := ⟨by decide, by decide⟩
theorem wp_X12_cheapest : (parseMethodDescriptor yX12_cheapest.desc).map (fun d => d.parameters.length) = some 2 := by decide +kernel
theorem wd_1610 : Cond.instanceMethod ({ cls := "UtilityBoardModel", name := "cheapest", desc := "(II)I" } : MethodName) ∈ lw_ok := lw_ok_mem (tb_6 _ (List.mem_of_getElem? (i := 72) (by decide +kernel))) rfl
theorem wm_X12_cheapest : Cond.instanceMethod yX12_cheapest ∈ lw_ok := wd_1610
theorem wd_1611 : Cond.selects "UtilityBoardModel" ({ cls := "UtilityBoardModel", name := "cheapest", desc := "(II)I" } : MethodName) ({ cls := "UtilityBoardModel", name := "cheapest", desc := "(II)I" } : MethodName) ∈ lw_ok := lw_ok_mem (tb_6 _ (List.mem_of_getElem? (i := 73) (by decide +kernel))) rfl
theorem ws_X12_cheapest : Cond.selects yX12_cheapest.cls yX12_cheapest yX12_cheapest ∈ lw_ok := wd_1611
theorem wd_1609 : Cond.methodLink "UtilityBoardLaw" (46 : Nat) ({ cls := "UtilityBoardModel", name := "cheapest", desc := "(II)I" } : MethodName) ∈ lw_ok := lw_ok_mem (tb_6 _ (List.mem_of_getElem? (i := 71) (by decide +kernel))) rfl
theorem cv__law_46 : CVW "UtilityBoardLaw" 46 yX12_cheapest.cls yX12_cheapest cX12_cheapest 10 (some .int) 2 := ⟨wd_1609, wm_X12_cheapest, ws_X12_cheapest, wi_X12_cheapest, wc_X12_cheapest, wn_X12_cheapest, wp_X12_cheapest⟩
theorem wd_636 : Cond.code ({ cls := "UtilityBoard", name := "thing", desc := "(IIII)I" } : MethodName) prog_1_method_9_code (6 : Nat) (Option.some .int) ∈ lw_ok := lw_ok_mem (tb_2 _ (List.mem_of_getElem? (i := 58) rfl)) rfl
theorem wc_X11_thing : Cond.code yX11_thing cX11_thing 6 (some .int) ∈ lw_ok := wd_636
theorem wi_X11_thing : Cond.initialized yX11_thing.cls ∈ lw_ok := wd_99
theorem wn_X11_thing : notMH yX11_thing := ⟨by decide, by decide⟩
theorem wp_X11_thing : (parseMethodDescriptor yX11_thing.desc).map (fun d => d.parameters.length) = some 4 := by decide +kernel
theorem wd_634 : Cond.instanceMethod ({ cls := "UtilityBoard", name := "thing", desc := "(IIII)I" } : MethodName) ∈ lw_ok := lw_ok_mem (tb_2 _ (List.mem_of_getElem? (i := 56) (by decide +kernel))) rfl
theorem wm_X11_thing : Cond.instanceMethod yX11_thing ∈ lw_ok := wd_634
theorem wd_635 : Cond.selects "UtilityBoard" ({ cls := "UtilityBoard", name := "thing", desc := "(IIII)I" } : MethodName) ({ cls := "UtilityBoard", name := "thing", desc := "(IIII)I" } : MethodName) ∈ lw_ok := lw_ok_mem (tb_2 _ (List.mem_of_getElem? (i := 57) (by decide +kernel))) rfl
theorem ws_X11_thing : Cond.selects yX11_thing.cls yX11_thing yX11_thing ∈ lw_ok := wd_635
theorem wd_633 : Cond.methodLink "UtilityBoardLaw" (47 : Nat) ({ cls := "UtilityBoard", name := "thing", desc := "(IIII)I" } : MethodName) ∈ lw_ok := lw_ok_mem (tb_2 _ (List.mem_of_getElem? (i := 55) (by decide +kernel))) rfl
theorem cv__law_47 : CVW "UtilityBoardLaw" 47 yX11_thing.cls yX11_thing cX11_thing 6 (some .int) 4 := ⟨wd_633, wm_X11_thing, ws_X11_thing, wi_X11_thing, wc_X11_thing, wn_X11_thing, wp_X11_thing⟩
theorem wd_1619 : Cond.code ({ cls := "UtilityBoardModel", name := "thing", desc := "(IIII)I" } : MethodName) prog_14_method_18_code (5 : Nat) (Option.some .int) ∈ lw_ok := lw_ok_mem (tb_6 _ (List.mem_of_getElem? (i := 81) rfl)) rfl
theorem wc_X12_thing : Cond.code yX12_thing cX12_thing 5 (some .int) ∈ lw_ok := wd_1619
theorem wi_X12_thing : Cond.initialized yX12_thing.cls ∈ lw_ok := wd_106
theorem wn_X12_thing : notMH yX12_thing := ⟨by decide, by decide⟩
theorem wp_X12_thing : (parseMethodDescriptor yX12_thing.desc).map (fun d => d.parameters.length) = some 4 := by decide +kernel
theorem wd_1617 : Cond.instanceMethod ({ cls := "UtilityBoardModel", name := "thing", desc := "(IIII)I" } : MethodName) ∈ lw_ok := lw_ok_mem (tb_6 _ (List.mem_of_getElem? (i := 79) (by decide +kernel))) rfl
theorem wm_X12_thing : Cond.instanceMethod yX12_thing ∈ lw_ok := wd_1617
theorem wd_1618 : Cond.selects "UtilityBoardModel" ({ cls := "UtilityBoardModel", name := "thing", desc := "(IIII)I" } : MethodName) ({ cls := "UtilityBoardModel", name := "thing", desc := "(IIII)I" } : MethodName) ∈ lw_ok := lw_ok_mem (tb_6 _ (List.mem_of_getElem? (i := 80) (by decide +kernel))) rfl
theorem ws_X12_thing : Cond.selects yX12_thing.cls yX12_thing yX12_thing ∈ lw_ok := wd_1618
theorem wd_1616 : Cond.methodLink "UtilityBoardLaw" (50 : Nat) ({ cls := "UtilityBoardModel", name := "thing", desc := "(IIII)I" } : MethodName) ∈ lw_ok := lw_ok_mem (tb_6 _ (List.mem_of_getElem? (i := 78) (by decide +kernel))) rfl
theorem cv__law_50 : CVW "UtilityBoardLaw" 50 yX12_thing.cls yX12_thing cX12_thing 5 (some .int) 4 := ⟨wd_1616, wm_X12_thing, ws_X12_thing, wi_X12_thing, wc_X12_thing, wn_X12_thing, wp_X12_thing⟩
theorem wd_698 : Cond.code ({ cls := "UtilityBoard", name := "piece", desc := "(III)I" } : MethodName) prog_1_method_10_code (5 : Nat) (Option.some .int) ∈ lw_ok := lw_ok_mem (tb_2 _ (List.mem_of_getElem? (i := 120) rfl)) rfl
theorem wc_X11_piece : Cond.code yX11_piece cX11_piece 5 (some .int) ∈ lw_ok := wd_698
theorem wi_X11_piece : Cond.initialized yX11_piece.cls ∈ lw_ok := wd_99
theorem wn_X11_piece : notMH yX11_piece := ⟨by decide, by decide⟩
theorem wp_X11_piece : (parseMethodDescriptor yX11_piece.desc).map (fun d => d.parameters.length) = some 3 := by decide +kernel
theorem wd_696 : Cond.instanceMethod ({ cls := "UtilityBoard", name := "piece", desc := "(III)I" } : MethodName) ∈ lw_ok := lw_ok_mem (tb_2 _ (List.mem_of_getElem? (i := 118) (by decide +kernel))) rfl
theorem wm_X11_piece : Cond.instanceMethod yX11_piece ∈ lw_ok := wd_696
theorem wd_697 : Cond.selects "UtilityBoard" ({ cls := "UtilityBoard", name := "piece", desc := "(III)I" } : MethodName) ({ cls := "UtilityBoard", name := "piece", desc := "(III)I" } : MethodName) ∈ lw_ok := lw_ok_mem (tb_2 _ (List.mem_of_getElem? (i := 119) (by decide +kernel))) rfl
theorem ws_X11_piece : Cond.selects yX11_piece.cls yX11_piece yX11_piece ∈ lw_ok := wd_697
theorem wd_695 : Cond.methodLink "UtilityBoardLaw" (51 : Nat) ({ cls := "UtilityBoard", name := "piece", desc := "(III)I" } : MethodName) ∈ lw_ok := lw_ok_mem (tb_2 _ (List.mem_of_getElem? (i := 117) (by decide +kernel))) rfl
theorem cv__law_51 : CVW "UtilityBoardLaw" 51 yX11_piece.cls yX11_piece cX11_piece 5 (some .int) 3 := ⟨wd_695, wm_X11_piece, ws_X11_piece, wi_X11_piece, wc_X11_piece, wn_X11_piece, wp_X11_piece⟩
theorem wd_1627 : Cond.code ({ cls := "UtilityBoardModel", name := "piece", desc := "(III)I" } : MethodName) prog_14_method_19_code (4 : Nat) (Option.some .int) ∈ lw_ok := lw_ok_mem (tb_6 _ (List.mem_of_getElem? (i := 89) rfl)) rfl
theorem wc_X12_piece : Cond.code yX12_piece cX12_piece 4 (some .int) ∈ lw_ok := wd_1627
theorem wi_X12_piece : Cond.initialized yX12_piece.cls ∈ lw_ok := wd_106
theorem wn_X12_piece : notMH yX12_piece := ⟨by decide, by decide⟩
theorem wp_X12_piece : (parseMethodDescriptor yX12_piece.desc).map (fun d => d.parameters.length) = some 3 := by decide +kernel
theorem wd_1625 : Cond.instanceMethod ({ cls := "UtilityBoardModel", name := "piece", desc := "(III)I" } : MethodName) ∈ lw_ok := lw_ok_mem (tb_6 _ (List.mem_of_getElem? (i := 87) (by decide +kernel))) rfl
theorem wm_X12_piece : Cond.instanceMethod yX12_piece ∈ lw_ok := wd_1625
theorem wd_1626 : Cond.selects "UtilityBoardModel" ({ cls := "UtilityBoardModel", name := "piece", desc := "(III)I" } : MethodName) ({ cls := "UtilityBoardModel", name := "piece", desc := "(III)I" } : MethodName) ∈ lw_ok := lw_ok_mem (tb_6 _ (List.mem_of_getElem? (i := 88) (by decide +kernel))) rfl
theorem ws_X12_piece : Cond.selects yX12_piece.cls yX12_piece yX12_piece ∈ lw_ok := wd_1626
theorem wd_1624 : Cond.methodLink "UtilityBoardLaw" (54 : Nat) ({ cls := "UtilityBoardModel", name := "piece", desc := "(III)I" } : MethodName) ∈ lw_ok := lw_ok_mem (tb_6 _ (List.mem_of_getElem? (i := 86) (by decide +kernel))) rfl
theorem cv__law_54 : CVW "UtilityBoardLaw" 54 yX12_piece.cls yX12_piece cX12_piece 4 (some .int) 3 := ⟨wd_1624, wm_X12_piece, ws_X12_piece, wi_X12_piece, wc_X12_piece, wn_X12_piece, wp_X12_piece⟩
theorem wd_715 : Cond.code ({ cls := "UtilityBoard", name := "laid", desc := "(III)I" } : MethodName) prog_1_method_11_code (5 : Nat) (Option.some .int) ∈ lw_ok := lw_ok_mem (tb_2 _ (List.mem_of_getElem? (i := 137) rfl)) rfl
theorem wc_X11_laid : Cond.code yX11_laid cX11_laid 5 (some .int) ∈ lw_ok := wd_715
theorem wi_X11_laid : Cond.initialized yX11_laid.cls ∈ lw_ok := wd_99
theorem wn_X11_laid : notMH yX11_laid := ⟨by decide, by decide⟩
theorem wp_X11_laid : (parseMethodDescriptor yX11_laid.desc).map (fun d => d.parameters.length) = some 3 := by decide +kernel
theorem wd_713 : Cond.instanceMethod ({ cls := "UtilityBoard", name := "laid", desc := "(III)I" } : MethodName) ∈ lw_ok := lw_ok_mem (tb_2 _ (List.mem_of_getElem? (i := 135) (by decide +kernel))) rfl
theorem wm_X11_laid : Cond.instanceMethod yX11_laid ∈ lw_ok := wd_713
theorem wd_714 : Cond.selects "UtilityBoard" ({ cls := "UtilityBoard", name := "laid", desc := "(III)I" } : MethodName) ({ cls := "UtilityBoard", name := "laid", desc := "(III)I" } : MethodName) ∈ lw_ok := lw_ok_mem (tb_2 _ (List.mem_of_getElem? (i := 136) (by decide +kernel))) rfl
theorem ws_X11_laid : Cond.selects yX11_laid.cls yX11_laid yX11_laid ∈ lw_ok := wd_714
theorem wd_712 : Cond.methodLink "UtilityBoardLaw" (55 : Nat) ({ cls := "UtilityBoard", name := "laid", desc := "(III)I" } : MethodName) ∈ lw_ok := lw_ok_mem (tb_2 _ (List.mem_of_getElem? (i := 134) (by decide +kernel))) rfl
theorem cv__law_55 : CVW "UtilityBoardLaw" 55 yX11_laid.cls yX11_laid cX11_laid 5 (some .int) 3 := ⟨wd_712, wm_X11_laid, ws_X11_laid, wi_X11_laid, wc_X11_laid, wn_X11_laid, wp_X11_laid⟩
theorem wd_1635 : Cond.code ({ cls := "UtilityBoardModel", name := "laid", desc := "(III)I" } : MethodName) prog_14_method_22_code (7 : Nat) (Option.some .int) ∈ lw_ok := lw_ok_mem (tb_6 _ (List.mem_of_getElem? (i := 97) rfl)) rfl
theorem wc_X12_laid : Cond.code yX12_laid cX12_laid 7 (some .int) ∈ lw_ok := wd_1635
theorem wi_X12_laid : Cond.initialized yX12_laid.cls ∈ lw_ok := wd_106
theorem wn_X12_laid : notMH yX12_laid := ⟨by decide, by decide⟩
theorem wp_X12_laid : (parseMethodDescriptor yX12_laid.desc).map (fun d => d.parameters.length) = some 3 := by decide +kernel
theorem wd_1633 : Cond.instanceMethod ({ cls := "UtilityBoardModel", name := "laid", desc := "(III)I" } : MethodName) ∈ lw_ok := lw_ok_mem (tb_6 _ (List.mem_of_getElem? (i := 95) (by decide +kernel))) rfl
theorem wm_X12_laid : Cond.instanceMethod yX12_laid ∈ lw_ok := wd_1633
theorem wd_1634 : Cond.selects "UtilityBoardModel" ({ cls := "UtilityBoardModel", name := "laid", desc := "(III)I" } : MethodName) ({ cls := "UtilityBoardModel", name := "laid", desc := "(III)I" } : MethodName) ∈ lw_ok := lw_ok_mem (tb_6 _ (List.mem_of_getElem? (i := 96) (by decide +kernel))) rfl
theorem ws_X12_laid : Cond.selects yX12_laid.cls yX12_laid yX12_laid ∈ lw_ok := wd_1634
theorem wd_1632 : Cond.methodLink "UtilityBoardLaw" (58 : Nat) ({ cls := "UtilityBoardModel", name := "laid", desc := "(III)I" } : MethodName) ∈ lw_ok := lw_ok_mem (tb_6 _ (List.mem_of_getElem? (i := 94) (by decide +kernel))) rfl
theorem cv__law_58 : CVW "UtilityBoardLaw" 58 yX12_laid.cls yX12_laid cX12_laid 7 (some .int) 3 := ⟨wd_1632, wm_X12_laid, ws_X12_laid, wi_X12_laid, wc_X12_laid, wn_X12_laid, wp_X12_laid⟩
theorem wd_734 : Cond.code ({ cls := "UtilityBoard", name := "least", desc := "(III)I" } : MethodName) prog_1_method_12_code (5 : Nat) (Option.some .int) ∈ lw_ok := lw_ok_mem (tb_2 _ (List.mem_of_getElem? (i := 156) rfl)) rfl
theorem wc_X11_least : Cond.code yX11_least cX11_least 5 (some .int) ∈ lw_ok := wd_734
theorem wi_X11_least : Cond.initialized yX11_least.cls ∈ lw_ok := wd_99
theorem wn_X11_least : notMH yX11_least := ⟨by decide, by decide⟩
theorem wp_X11_least : (parseMethodDescriptor yX11_least.desc).map (fun d => d.parameters.length) = some 3 := by decide +kernel
theorem wd_732 : Cond.instanceMethod ({ cls := "UtilityBoard", name := "least", desc := "(III)I" } : MethodName) ∈ lw_ok := lw_ok_mem (tb_2 _ (List.mem_of_getElem? (i := 154) (by decide +kernel))) rfl
theorem wm_X11_least : Cond.instanceMethod yX11_least ∈ lw_ok := wd_732
theorem wd_733 : Cond.selects "UtilityBoard" ({ cls := "UtilityBoard", name := "least", desc := "(III)I" } : MethodName) ({ cls := "UtilityBoard", name := "least", desc := "(III)I" } : MethodName) ∈ lw_ok := lw_ok_mem (tb_2 _ (List.mem_of_getElem? (i := 155) (by decide +kernel))) rfl
theorem ws_X11_least : Cond.selects yX11_least.cls yX11_least yX11_least ∈ lw_ok := wd_733
theorem wd_731 : Cond.methodLink "UtilityBoardLaw" (59 : Nat) ({ cls := "UtilityBoard", name := "least", desc := "(III)I" } : MethodName) ∈ lw_ok := lw_ok_mem (tb_2 _ (List.mem_of_getElem? (i := 153) (by decide +kernel))) rfl
theorem cv__law_59 : CVW "UtilityBoardLaw" 59 yX11_least.cls yX11_least cX11_least 5 (some .int) 3 := ⟨wd_731, wm_X11_least, ws_X11_least, wi_X11_least, wc_X11_least, wn_X11_least, wp_X11_least⟩
theorem wd_1647 : Cond.code ({ cls := "UtilityBoardModel", name := "least", desc := "(III)I" } : MethodName) prog_14_method_25_code (9 : Nat) (Option.some .int) ∈ lw_ok := lw_ok_mem (tb_6 _ (List.mem_of_getElem? (i := 109) rfl)) rfl
theorem wc_X12_least : Cond.code yX12_least cX12_least 9 (some .int) ∈ lw_ok := wd_1647
theorem wi_X12_least : Cond.initialized yX12_least.cls ∈ lw_ok := wd_106
theorem wn_X12_least : notMH yX12_least := ⟨by decide, by decide⟩
theorem wp_X12_least : (parseMethodDescriptor yX12_least.desc).map (fun d => d.parameters.length) = some 3 := by decide +kernel
theorem wd_1645 : Cond.instanceMethod ({ cls := "UtilityBoardModel", name := "least", desc := "(III)I" } : MethodName) ∈ lw_ok := lw_ok_mem (tb_6 _ (List.mem_of_getElem? (i := 107) (by decide +kernel))) rfl
theorem wm_X12_least : Cond.instanceMethod yX12_least ∈ lw_ok := wd_1645
theorem wd_1646 : Cond.selects "UtilityBoardModel" ({ cls := "UtilityBoardModel", name := "least", desc := "(III)I" } : MethodName) ({ cls := "UtilityBoardModel", name := "least", desc := "(III)I" } : MethodName) ∈ lw_ok := lw_ok_mem (tb_6 _ (List.mem_of_getElem? (i := 108) (by decide +kernel))) rfl
theorem ws_X12_least : Cond.selects yX12_least.cls yX12_least yX12_least ∈ lw_ok := wd_1646
theorem wd_1644 : Cond.methodLink "UtilityBoardLaw" (62 : Nat) ({ cls := "UtilityBoardModel", name := "least", desc := "(III)I" } : MethodName) ∈ lw_ok := lw_ok_mem (tb_6 _ (List.mem_of_getElem? (i := 106) (by decide +kernel))) rfl
theorem cv__law_62 : CVW "UtilityBoardLaw" 62 yX12_least.cls yX12_least cX12_least 9 (some .int) 3 := ⟨wd_1644, wm_X12_least, ws_X12_least, wi_X12_least, wc_X12_least, wn_X12_least, wp_X12_least⟩
theorem wd_763 : Cond.code ({ cls := "UtilityBoard", name := "maker", desc := "(IIIII)I" } : MethodName) prog_1_method_13_code (6 : Nat) (Option.some .int) ∈ lw_ok := lw_ok_mem (tb_2 _ (List.mem_of_getElem? (i := 185) rfl)) rfl
theorem wc_X11_maker : Cond.code yX11_maker cX11_maker 6 (some .int) ∈ lw_ok := wd_763
theorem wi_X11_maker : Cond.initialized yX11_maker.cls ∈ lw_ok := wd_99
theorem wn_X11_maker : notMH yX11_maker := ⟨by decide, by decide⟩
theorem wp_X11_maker : (parseMethodDescriptor yX11_maker.desc).map (fun d => d.parameters.length) = some 5 := by decide +kernel
theorem wd_761 : Cond.instanceMethod ({ cls := "UtilityBoard", name := "maker", desc := "(IIIII)I" } : MethodName) ∈ lw_ok := lw_ok_mem (tb_2 _ (List.mem_of_getElem? (i := 183) (by decide +kernel))) rfl
theorem wm_X11_maker : Cond.instanceMethod yX11_maker ∈ lw_ok := wd_761
theorem wd_762 : Cond.selects "UtilityBoard" ({ cls := "UtilityBoard", name := "maker", desc := "(IIIII)I" } : MethodName) ({ cls := "UtilityBoard", name := "maker", desc := "(IIIII)I" } : MethodName) ∈ lw_ok := lw_ok_mem (tb_2 _ (List.mem_of_getElem? (i := 184) (by decide +kernel))) rfl
theorem ws_X11_maker : Cond.selects yX11_maker.cls yX11_maker yX11_maker ∈ lw_ok := wd_762
theorem wd_760 : Cond.methodLink "UtilityBoardLaw" (63 : Nat) ({ cls := "UtilityBoard", name := "maker", desc := "(IIIII)I" } : MethodName) ∈ lw_ok := lw_ok_mem (tb_2 _ (List.mem_of_getElem? (i := 182) (by decide +kernel))) rfl
theorem cv__law_63 : CVW "UtilityBoardLaw" 63 yX11_maker.cls yX11_maker cX11_maker 6 (some .int) 5 := ⟨wd_760, wm_X11_maker, ws_X11_maker, wi_X11_maker, wc_X11_maker, wn_X11_maker, wp_X11_maker⟩
theorem wd_1659 : Cond.code ({ cls := "UtilityBoardModel", name := "maker", desc := "(IIIII)I" } : MethodName) prog_14_method_27_code (6 : Nat) (Option.some .int) ∈ lw_ok := lw_ok_mem (tb_6 _ (List.mem_of_getElem? (i := 121) rfl)) rfl
theorem wc_X12_maker : Cond.code yX12_maker cX12_maker 6 (some .int) ∈ lw_ok := wd_1659
theorem wi_X12_maker : Cond.initialized yX12_maker.cls ∈ lw_ok := wd_106
theorem wn_X12_maker : notMH yX12_maker := ⟨by decide, by decide⟩
theorem wp_X12_maker : (parseMethodDescriptor yX12_maker.desc).map (fun d => d.parameters.length) = some 5 := by decide +kernel
theorem wd_1657 : Cond.instanceMethod ({ cls := "UtilityBoardModel", name := "maker", desc := "(IIIII)I" } : MethodName) ∈ lw_ok := lw_ok_mem (tb_6 _ (List.mem_of_getElem? (i := 119) (by decide +kernel))) rfl
theorem wm_X12_maker : Cond.instanceMethod yX12_maker ∈ lw_ok := wd_1657
theorem wd_1658 : Cond.selects "UtilityBoardModel" ({ cls := "UtilityBoardModel", name := "maker", desc := "(IIIII)I" } : MethodName) ({ cls := "UtilityBoardModel", name := "maker", desc := "(IIIII)I" } : MethodName) ∈ lw_ok := lw_ok_mem (tb_6 _ (List.mem_of_getElem? (i := 120) (by decide +kernel))) rfl
theorem ws_X12_maker : Cond.selects yX12_maker.cls yX12_maker yX12_maker ∈ lw_ok := wd_1658
theorem wd_1656 : Cond.methodLink "UtilityBoardLaw" (67 : Nat) ({ cls := "UtilityBoardModel", name := "maker", desc := "(IIIII)I" } : MethodName) ∈ lw_ok := lw_ok_mem (tb_6 _ (List.mem_of_getElem? (i := 118) (by decide +kernel))) rfl
theorem cv__law_67 : CVW "UtilityBoardLaw" 67 yX12_maker.cls yX12_maker cX12_maker 6 (some .int) 5 := ⟨wd_1656, wm_X12_maker, ws_X12_maker, wi_X12_maker, wc_X12_maker, wn_X12_maker, wp_X12_maker⟩
theorem wd_812 : Cond.code ({ cls := "UtilityBoard", name := "named", desc := "(IZ)Z" } : MethodName) prog_1_method_14_code (4 : Nat) (Option.some .boolean) ∈ lw_ok := lw_ok_mem (tb_2 _ (List.mem_of_getElem? (i := 234) rfl)) rfl
theorem wc_X11_named : Cond.code yX11_named cX11_named 4 (some .boolean) ∈ lw_ok := wd_812
theorem wi_X11_named : Cond.initialized yX11_named.cls ∈ lw_ok := wd_99
theorem wn_X11_named : notMH yX11_named := ⟨by decide, by decide⟩
theorem wp_X11_named : (parseMethodDescriptor yX11_named.desc).map (fun d => d.parameters.length) = some 2 := by decide +kernel
theorem wd_810 : Cond.instanceMethod ({ cls := "UtilityBoard", name := "named", desc := "(IZ)Z" } : MethodName) ∈ lw_ok := lw_ok_mem (tb_2 _ (List.mem_of_getElem? (i := 232) (by decide +kernel))) rfl
theorem wm_X11_named : Cond.instanceMethod yX11_named ∈ lw_ok := wd_810
theorem wd_811 : Cond.selects "UtilityBoard" ({ cls := "UtilityBoard", name := "named", desc := "(IZ)Z" } : MethodName) ({ cls := "UtilityBoard", name := "named", desc := "(IZ)Z" } : MethodName) ∈ lw_ok := lw_ok_mem (tb_2 _ (List.mem_of_getElem? (i := 233) (by decide +kernel))) rfl
theorem ws_X11_named : Cond.selects yX11_named.cls yX11_named yX11_named ∈ lw_ok := wd_811
theorem wd_809 : Cond.methodLink "UtilityBoardLaw" (68 : Nat) ({ cls := "UtilityBoard", name := "named", desc := "(IZ)Z" } : MethodName) ∈ lw_ok := lw_ok_mem (tb_2 _ (List.mem_of_getElem? (i := 231) (by decide +kernel))) rfl
theorem cv__law_68 : CVW "UtilityBoardLaw" 68 yX11_named.cls yX11_named cX11_named 4 (some .boolean) 2 := ⟨wd_809, wm_X11_named, ws_X11_named, wi_X11_named, wc_X11_named, wn_X11_named, wp_X11_named⟩
theorem wd_1663 : Cond.code ({ cls := "UtilityBoardModel", name := "named", desc := "(IZ)Z" } : MethodName) prog_14_method_28_code (3 : Nat) (Option.some .boolean) ∈ lw_ok := lw_ok_mem (tb_6 _ (List.mem_of_getElem? (i := 125) rfl)) rfl
theorem wc_X12_named : Cond.code yX12_named cX12_named 3 (some .boolean) ∈ lw_ok := wd_1663
theorem wi_X12_named : Cond.initialized yX12_named.cls ∈ lw_ok := wd_106
theorem wn_X12_named : notMH yX12_named := ⟨by decide, by decide⟩
theorem wp_X12_named : (parseMethodDescriptor yX12_named.desc).map (fun d => d.parameters.length) = some 2 := by decide +kernel
theorem wd_1661 : Cond.instanceMethod ({ cls := "UtilityBoardModel", name := "named", desc := "(IZ)Z" } : MethodName) ∈ lw_ok := lw_ok_mem (tb_6 _ (List.mem_of_getElem? (i := 123) (by decide +kernel))) rfl
theorem wm_X12_named : Cond.instanceMethod yX12_named ∈ lw_ok := wd_1661
theorem wd_1662 : Cond.selects "UtilityBoardModel" ({ cls := "UtilityBoardModel", name := "named", desc := "(IZ)Z" } : MethodName) ({ cls := "UtilityBoardModel", name := "named", desc := "(IZ)Z" } : MethodName) ∈ lw_ok := lw_ok_mem (tb_6 _ (List.mem_of_getElem? (i := 124) (by decide +kernel))) rfl
theorem ws_X12_named : Cond.selects yX12_named.cls yX12_named yX12_named ∈ lw_ok := wd_1662
theorem wd_1660 : Cond.methodLink "UtilityBoardLaw" (72 : Nat) ({ cls := "UtilityBoardModel", name := "named", desc := "(IZ)Z" } : MethodName) ∈ lw_ok := lw_ok_mem (tb_6 _ (List.mem_of_getElem? (i := 122) (by decide +kernel))) rfl
theorem cv__law_72 : CVW "UtilityBoardLaw" 72 yX12_named.cls yX12_named cX12_named 3 (some .boolean) 2 := ⟨wd_1660, wm_X12_named, ws_X12_named, wi_X12_named, wc_X12_named, wn_X12_named, wp_X12_named⟩
theorem wd_820 : Cond.code ({ cls := "UtilityBoard", name := "yards", desc := "(III)I" } : MethodName) prog_1_method_15_code (5 : Nat) (Option.some .int) ∈ lw_ok := lw_ok_mem (tb_3 _ (List.mem_of_getElem? (i := 2) rfl)) rfl
theorem wc_X11_yards : Cond.code yX11_yards cX11_yards 5 (some .int) ∈ lw_ok := wd_820
theorem wi_X11_yards : Cond.initialized yX11_yards.cls ∈ lw_ok := wd_99
theorem wn_X11_yards : notMH yX11_yards := ⟨by decide, by decide⟩
theorem wp_X11_yards : (parseMethodDescriptor yX11_yards.desc).map (fun d => d.parameters.length) = some 3 := by decide +kernel
theorem wd_818 : Cond.instanceMethod ({ cls := "UtilityBoard", name := "yards", desc := "(III)I" } : MethodName) ∈ lw_ok := lw_ok_mem (tb_3 _ (List.mem_of_getElem? (i := 0) (by decide +kernel))) rfl
theorem wm_X11_yards : Cond.instanceMethod yX11_yards ∈ lw_ok := wd_818
theorem wd_819 : Cond.selects "UtilityBoard" ({ cls := "UtilityBoard", name := "yards", desc := "(III)I" } : MethodName) ({ cls := "UtilityBoard", name := "yards", desc := "(III)I" } : MethodName) ∈ lw_ok := lw_ok_mem (tb_3 _ (List.mem_of_getElem? (i := 1) (by decide +kernel))) rfl
theorem ws_X11_yards : Cond.selects yX11_yards.cls yX11_yards yX11_yards ∈ lw_ok := wd_819
theorem wd_817 : Cond.methodLink "UtilityBoardLaw" (73 : Nat) ({ cls := "UtilityBoard", name := "yards", desc := "(III)I" } : MethodName) ∈ lw_ok := lw_ok_mem (tb_2 _ (List.mem_of_getElem? (i := 239) (by decide +kernel))) rfl
theorem cv__law_73 : CVW "UtilityBoardLaw" 73 yX11_yards.cls yX11_yards cX11_yards 5 (some .int) 3 := ⟨wd_817, wm_X11_yards, ws_X11_yards, wi_X11_yards, wc_X11_yards, wn_X11_yards, wp_X11_yards⟩
theorem wd_1671 : Cond.code ({ cls := "UtilityBoardModel", name := "yards", desc := "(III)I" } : MethodName) prog_14_method_29_code (4 : Nat) (Option.some .int) ∈ lw_ok := lw_ok_mem (tb_6 _ (List.mem_of_getElem? (i := 133) rfl)) rfl
theorem wc_X12_yards : Cond.code yX12_yards cX12_yards 4 (some .int) ∈ lw_ok := wd_1671
theorem wi_X12_yards : Cond.initialized yX12_yards.cls ∈ lw_ok := wd_106
theorem wn_X12_yards : notMH yX12_yards := ⟨by decide, by decide⟩
theorem wp_X12_yards : (parseMethodDescriptor yX12_yards.desc).map (fun d => d.parameters.length) = some 3 := by decide +kernel
theorem wd_1669 : Cond.instanceMethod ({ cls := "UtilityBoardModel", name := "yards", desc := "(III)I" } : MethodName) ∈ lw_ok := lw_ok_mem (tb_6 _ (List.mem_of_getElem? (i := 131) (by decide +kernel))) rfl
theorem wm_X12_yards : Cond.instanceMethod yX12_yards ∈ lw_ok := wd_1669
theorem wd_1670 : Cond.selects "UtilityBoardModel" ({ cls := "UtilityBoardModel", name := "yards", desc := "(III)I" } : MethodName) ({ cls := "UtilityBoardModel", name := "yards", desc := "(III)I" } : MethodName) ∈ lw_ok := lw_ok_mem (tb_6 _ (List.mem_of_getElem? (i := 132) (by decide +kernel))) rfl
theorem ws_X12_yards : Cond.selects yX12_yards.cls yX12_yards yX12_yards ∈ lw_ok := wd_1670
theorem wd_1668 : Cond.methodLink "UtilityBoardLaw" (76 : Nat) ({ cls := "UtilityBoardModel", name := "yards", desc := "(III)I" } : MethodName) ∈ lw_ok := lw_ok_mem (tb_6 _ (List.mem_of_getElem? (i := 130) (by decide +kernel))) rfl
theorem cv__law_76 : CVW "UtilityBoardLaw" 76 yX12_yards.cls yX12_yards cX12_yards 4 (some .int) 3 := ⟨wd_1668, wm_X12_yards, ws_X12_yards, wi_X12_yards, wc_X12_yards, wn_X12_yards, wp_X12_yards⟩
theorem wd_824 : Cond.code ({ cls := "UtilityBoard", name := "feed", desc := "(IIIII)I" } : MethodName) prog_1_method_16_code (6 : Nat) (Option.some .int) ∈ lw_ok := lw_ok_mem (tb_3 _ (List.mem_of_getElem? (i := 6) rfl)) rfl
theorem wc_X11_feed : Cond.code yX11_feed cX11_feed 6 (some .int) ∈ lw_ok := wd_824
theorem wi_X11_feed : Cond.initialized yX11_feed.cls ∈ lw_ok := wd_99
theorem wn_X11_feed : notMH yX11_feed := ⟨by decide, by decide⟩
theorem wp_X11_feed : (parseMethodDescriptor yX11_feed.desc).map (fun d => d.parameters.length) = some 5 := by decide +kernel
theorem wd_822 : Cond.instanceMethod ({ cls := "UtilityBoard", name := "feed", desc := "(IIIII)I" } : MethodName) ∈ lw_ok := lw_ok_mem (tb_3 _ (List.mem_of_getElem? (i := 4) (by decide +kernel))) rfl
theorem wm_X11_feed : Cond.instanceMethod yX11_feed ∈ lw_ok := wd_822
theorem wd_823 : Cond.selects "UtilityBoard" ({ cls := "UtilityBoard", name := "feed", desc := "(IIIII)I" } : MethodName) ({ cls := "UtilityBoard", name := "feed", desc := "(IIIII)I" } : MethodName) ∈ lw_ok := lw_ok_mem (tb_3 _ (List.mem_of_getElem? (i := 5) (by decide +kernel))) rfl
theorem ws_X11_feed : Cond.selects yX11_feed.cls yX11_feed yX11_feed ∈ lw_ok := wd_823
theorem wd_821 : Cond.methodLink "UtilityBoardLaw" (77 : Nat) ({ cls := "UtilityBoard", name := "feed", desc := "(IIIII)I" } : MethodName) ∈ lw_ok := lw_ok_mem (tb_3 _ (List.mem_of_getElem? (i := 3) (by decide +kernel))) rfl
theorem cv__law_77 : CVW "UtilityBoardLaw" 77 yX11_feed.cls yX11_feed cX11_feed 6 (some .int) 5 := ⟨wd_821, wm_X11_feed, ws_X11_feed, wi_X11_feed, wc_X11_feed, wn_X11_feed, wp_X11_feed⟩
theorem wd_1676 : Cond.code ({ cls := "UtilityBoardModel", name := "feed", desc := "(IIIII)I" } : MethodName) prog_14_method_31_code (6 : Nat) (Option.some .int) ∈ lw_ok := lw_ok_mem (tb_6 _ (List.mem_of_getElem? (i := 138) rfl)) rfl
theorem wc_X12_feed : Cond.code yX12_feed cX12_feed 6 (some .int) ∈ lw_ok := wd_1676
theorem wi_X12_feed : Cond.initialized yX12_feed.cls ∈ lw_ok := wd_106
theorem wn_X12_feed : notMH yX12_feed := ⟨by decide, by decide⟩
theorem wp_X12_feed : (parseMethodDescriptor yX12_feed.desc).map (fun d => d.parameters.length) = some 5 := by decide +kernel
theorem wd_1674 : Cond.instanceMethod ({ cls := "UtilityBoardModel", name := "feed", desc := "(IIIII)I" } : MethodName) ∈ lw_ok := lw_ok_mem (tb_6 _ (List.mem_of_getElem? (i := 136) (by decide +kernel))) rfl
theorem wm_X12_feed : Cond.instanceMethod yX12_feed ∈ lw_ok := wd_1674
theorem wd_1675 : Cond.selects "UtilityBoardModel" ({ cls := "UtilityBoardModel", name := "feed", desc := "(IIIII)I" } : MethodName) ({ cls := "UtilityBoardModel", name := "feed", desc := "(IIIII)I" } : MethodName) ∈ lw_ok := lw_ok_mem (tb_6 _ (List.mem_of_getElem? (i := 137) (by decide +kernel))) rfl
theorem ws_X12_feed : Cond.selects yX12_feed.cls yX12_feed yX12_feed ∈ lw_ok := wd_1675
theorem wd_1673 : Cond.methodLink "UtilityBoardLaw" (80 : Nat) ({ cls := "UtilityBoardModel", name := "feed", desc := "(IIIII)I" } : MethodName) ∈ lw_ok := lw_ok_mem (tb_6 _ (List.mem_of_getElem? (i := 135) (by decide +kernel))) rfl
theorem cv__law_80 : CVW "UtilityBoardLaw" 80 yX12_feed.cls yX12_feed cX12_feed 6 (some .int) 5 := ⟨wd_1673, wm_X12_feed, ws_X12_feed, wi_X12_feed, wc_X12_feed, wn_X12_feed, wp_X12_feed⟩
theorem wd_832 : Cond.code ({ cls := "UtilityBoard", name := "order", desc := "(III)I" } : MethodName) prog_1_method_17_code (5 : Nat) (Option.some .int) ∈ lw_ok := lw_ok_mem (tb_3 _ (List.mem_of_getElem? (i := 14) rfl)) rfl
theorem wc_X11_order : Cond.code yX11_order cX11_order 5 (some .int) ∈ lw_ok := wd_832
theorem wi_X11_order : Cond.initialized yX11_order.cls ∈ lw_ok := wd_99
theorem wn_X11_order : notMH yX11_order := ⟨by decide, by decide⟩
theorem wp_X11_order : (parseMethodDescriptor yX11_order.desc).map (fun d => d.parameters.length) = some 3 := by decide +kernel
theorem wd_830 : Cond.instanceMethod ({ cls := "UtilityBoard", name := "order", desc := "(III)I" } : MethodName) ∈ lw_ok := lw_ok_mem (tb_3 _ (List.mem_of_getElem? (i := 12) (by decide +kernel))) rfl
theorem wm_X11_order : Cond.instanceMethod yX11_order ∈ lw_ok := wd_830
theorem wd_831 : Cond.selects "UtilityBoard" ({ cls := "UtilityBoard", name := "order", desc := "(III)I" } : MethodName) ({ cls := "UtilityBoard", name := "order", desc := "(III)I" } : MethodName) ∈ lw_ok := lw_ok_mem (tb_3 _ (List.mem_of_getElem? (i := 13) (by decide +kernel))) rfl
theorem ws_X11_order : Cond.selects yX11_order.cls yX11_order yX11_order ∈ lw_ok := wd_831
theorem wd_829 : Cond.methodLink "UtilityBoardLaw" (81 : Nat) ({ cls := "UtilityBoard", name := "order", desc := "(III)I" } : MethodName) ∈ lw_ok := lw_ok_mem (tb_3 _ (List.mem_of_getElem? (i := 11) (by decide +kernel))) rfl
theorem cv__law_81 : CVW "UtilityBoardLaw" 81 yX11_order.cls yX11_order cX11_order 5 (some .int) 3 := ⟨wd_829, wm_X11_order, ws_X11_order, wi_X11_order, wc_X11_order, wn_X11_order, wp_X11_order⟩
theorem wd_1684 : Cond.code ({ cls := "UtilityBoardModel", name := "order", desc := "(III)I" } : MethodName) prog_14_method_53_code (7 : Nat) (Option.some .int) ∈ lw_ok := lw_ok_mem (tb_6 _ (List.mem_of_getElem? (i := 146) rfl)) rfl
theorem wc_X12_order : Cond.code yX12_order cX12_order 7 (some .int) ∈ lw_ok := wd_1684
theorem wi_X12_order : Cond.initialized yX12_order.cls ∈ lw_ok := wd_106
theorem wn_X12_order : notMH yX12_order := ⟨by decide, by decide⟩
theorem wp_X12_order : (parseMethodDescriptor yX12_order.desc).map (fun d => d.parameters.length) = some 3 := by decide +kernel
theorem wd_1682 : Cond.instanceMethod ({ cls := "UtilityBoardModel", name := "order", desc := "(III)I" } : MethodName) ∈ lw_ok := lw_ok_mem (tb_6 _ (List.mem_of_getElem? (i := 144) (by decide +kernel))) rfl
theorem wm_X12_order : Cond.instanceMethod yX12_order ∈ lw_ok := wd_1682
theorem wd_1683 : Cond.selects "UtilityBoardModel" ({ cls := "UtilityBoardModel", name := "order", desc := "(III)I" } : MethodName) ({ cls := "UtilityBoardModel", name := "order", desc := "(III)I" } : MethodName) ∈ lw_ok := lw_ok_mem (tb_6 _ (List.mem_of_getElem? (i := 145) (by decide +kernel))) rfl
theorem ws_X12_order : Cond.selects yX12_order.cls yX12_order yX12_order ∈ lw_ok := wd_1683
theorem wd_1681 : Cond.methodLink "UtilityBoardLaw" (84 : Nat) ({ cls := "UtilityBoardModel", name := "order", desc := "(III)I" } : MethodName) ∈ lw_ok := lw_ok_mem (tb_6 _ (List.mem_of_getElem? (i := 143) (by decide +kernel))) rfl
theorem cv__law_84 : CVW "UtilityBoardLaw" 84 yX12_order.cls yX12_order cX12_order 7 (some .int) 3 := ⟨wd_1681, wm_X12_order, ws_X12_order, wi_X12_order, wc_X12_order, wn_X12_order, wp_X12_order⟩
theorem wd_1031 : Cond.code ({ cls := "UtilityBoard", name := "number", desc := "(IIIII)I" } : MethodName) prog_1_method_18_code (11 : Nat) (Option.some .int) ∈ lw_ok := lw_ok_mem (tb_3 _ (List.mem_of_getElem? (i := 213) rfl)) rfl
theorem wc_X11_number : Cond.code yX11_number cX11_number 11 (some .int) ∈ lw_ok := wd_1031
theorem wi_X11_number : Cond.initialized yX11_number.cls ∈ lw_ok := wd_99
theorem wn_X11_number : notMH yX11_number := ⟨by decide, by decide⟩
theorem wp_X11_number : (parseMethodDescriptor yX11_number.desc).map (fun d => d.parameters.length) = some 5 := by decide +kernel
theorem wd_1029 : Cond.instanceMethod ({ cls := "UtilityBoard", name := "number", desc := "(IIIII)I" } : MethodName) ∈ lw_ok := lw_ok_mem (tb_3 _ (List.mem_of_getElem? (i := 211) (by decide +kernel))) rfl
theorem wm_X11_number : Cond.instanceMethod yX11_number ∈ lw_ok := wd_1029
theorem wd_1030 : Cond.selects "UtilityBoard" ({ cls := "UtilityBoard", name := "number", desc := "(IIIII)I" } : MethodName) ({ cls := "UtilityBoard", name := "number", desc := "(IIIII)I" } : MethodName) ∈ lw_ok := lw_ok_mem (tb_3 _ (List.mem_of_getElem? (i := 212) (by decide +kernel))) rfl
theorem ws_X11_number : Cond.selects yX11_number.cls yX11_number yX11_number ∈ lw_ok := wd_1030
theorem wd_1028 : Cond.methodLink "UtilityBoardLaw" (85 : Nat) ({ cls := "UtilityBoard", name := "number", desc := "(IIIII)I" } : MethodName) ∈ lw_ok := lw_ok_mem (tb_3 _ (List.mem_of_getElem? (i := 210) (by decide +kernel))) rfl
theorem cv__law_85 : CVW "UtilityBoardLaw" 85 yX11_number.cls yX11_number cX11_number 11 (some .int) 5 := ⟨wd_1028, wm_X11_number, ws_X11_number, wi_X11_number, wc_X11_number, wn_X11_number, wp_X11_number⟩
theorem wd_1774 : Cond.code ({ cls := "UtilityBoardModel", name := "number", desc := "(IIIII)I" } : MethodName) prog_14_method_62_code (6 : Nat) (Option.some .int) ∈ lw_ok := lw_ok_mem (tb_6 _ (List.mem_of_getElem? (i := 236) rfl)) rfl
theorem wc_X12_number : Cond.code yX12_number cX12_number 6 (some .int) ∈ lw_ok := wd_1774
theorem wi_X12_number : Cond.initialized yX12_number.cls ∈ lw_ok := wd_106
theorem wn_X12_number : notMH yX12_number := ⟨by decide, by decide⟩
theorem wp_X12_number : (parseMethodDescriptor yX12_number.desc).map (fun d => d.parameters.length) = some 5 := by decide +kernel
theorem wd_1772 : Cond.instanceMethod ({ cls := "UtilityBoardModel", name := "number", desc := "(IIIII)I" } : MethodName) ∈ lw_ok := lw_ok_mem (tb_6 _ (List.mem_of_getElem? (i := 234) (by decide +kernel))) rfl
theorem wm_X12_number : Cond.instanceMethod yX12_number ∈ lw_ok := wd_1772
theorem wd_1773 : Cond.selects "UtilityBoardModel" ({ cls := "UtilityBoardModel", name := "number", desc := "(IIIII)I" } : MethodName) ({ cls := "UtilityBoardModel", name := "number", desc := "(IIIII)I" } : MethodName) ∈ lw_ok := lw_ok_mem (tb_6 _ (List.mem_of_getElem? (i := 235) (by decide +kernel))) rfl
theorem ws_X12_number : Cond.selects yX12_number.cls yX12_number yX12_number ∈ lw_ok := wd_1773
theorem wd_1771 : Cond.methodLink "UtilityBoardLaw" (88 : Nat) ({ cls := "UtilityBoardModel", name := "number", desc := "(IIIII)I" } : MethodName) ∈ lw_ok := lw_ok_mem (tb_6 _ (List.mem_of_getElem? (i := 233) (by decide +kernel))) rfl
theorem cv__law_88 : CVW "UtilityBoardLaw" 88 yX12_number.cls yX12_number cX12_number 6 (some .int) 5 := ⟨wd_1771, wm_X12_number, ws_X12_number, wi_X12_number, wc_X12_number, wn_X12_number, wp_X12_number⟩
theorem wd_1054 : Cond.code ({ cls := "UtilityBoard", name := "why", desc := "(III)I" } : MethodName) prog_1_method_19_code (6 : Nat) (Option.some .int) ∈ lw_ok := lw_ok_mem (tb_3 _ (List.mem_of_getElem? (i := 236) rfl)) rfl
theorem wc_X11_why : Cond.code yX11_why cX11_why 6 (some .int) ∈ lw_ok := wd_1054
theorem wi_X11_why : Cond.initialized yX11_why.cls ∈ lw_ok := wd_99
theorem wn_X11_why : notMH yX11_why := ⟨by decide, by decide⟩
theorem wp_X11_why : (parseMethodDescriptor yX11_why.desc).map (fun d => d.parameters.length) = some 3 := by decide +kernel
theorem wd_1052 : Cond.instanceMethod ({ cls := "UtilityBoard", name := "why", desc := "(III)I" } : MethodName) ∈ lw_ok := lw_ok_mem (tb_3 _ (List.mem_of_getElem? (i := 234) (by decide +kernel))) rfl
theorem wm_X11_why : Cond.instanceMethod yX11_why ∈ lw_ok := wd_1052
theorem wd_1053 : Cond.selects "UtilityBoard" ({ cls := "UtilityBoard", name := "why", desc := "(III)I" } : MethodName) ({ cls := "UtilityBoard", name := "why", desc := "(III)I" } : MethodName) ∈ lw_ok := lw_ok_mem (tb_3 _ (List.mem_of_getElem? (i := 235) (by decide +kernel))) rfl
theorem ws_X11_why : Cond.selects yX11_why.cls yX11_why yX11_why ∈ lw_ok := wd_1053
theorem wd_1051 : Cond.methodLink "UtilityBoardLaw" (89 : Nat) ({ cls := "UtilityBoard", name := "why", desc := "(III)I" } : MethodName) ∈ lw_ok := lw_ok_mem (tb_3 _ (List.mem_of_getElem? (i := 233) (by decide +kernel))) rfl
theorem cv__law_89 : CVW "UtilityBoardLaw" 89 yX11_why.cls yX11_why cX11_why 6 (some .int) 3 := ⟨wd_1051, wm_X11_why, ws_X11_why, wi_X11_why, wc_X11_why, wn_X11_why, wp_X11_why⟩
theorem wd_1809 : Cond.code ({ cls := "UtilityBoardModel", name := "why", desc := "(III)I" } : MethodName) prog_14_method_63_code (4 : Nat) (Option.some .int) ∈ lw_ok := lw_ok_mem (tb_7 _ (List.mem_of_getElem? (i := 31) rfl)) rfl
theorem wc_X12_why : Cond.code yX12_why cX12_why 4 (some .int) ∈ lw_ok := wd_1809
theorem wi_X12_why : Cond.initialized yX12_why.cls ∈ lw_ok := wd_106
theorem wn_X12_why : notMH yX12_why := ⟨by decide, by decide⟩
theorem wp_X12_why : (parseMethodDescriptor yX12_why.desc).map (fun d => d.parameters.length) = some 3 := by decide +kernel
theorem wd_1807 : Cond.instanceMethod ({ cls := "UtilityBoardModel", name := "why", desc := "(III)I" } : MethodName) ∈ lw_ok := lw_ok_mem (tb_7 _ (List.mem_of_getElem? (i := 29) (by decide +kernel))) rfl
theorem wm_X12_why : Cond.instanceMethod yX12_why ∈ lw_ok := wd_1807
theorem wd_1808 : Cond.selects "UtilityBoardModel" ({ cls := "UtilityBoardModel", name := "why", desc := "(III)I" } : MethodName) ({ cls := "UtilityBoardModel", name := "why", desc := "(III)I" } : MethodName) ∈ lw_ok := lw_ok_mem (tb_7 _ (List.mem_of_getElem? (i := 30) (by decide +kernel))) rfl
theorem ws_X12_why : Cond.selects yX12_why.cls yX12_why yX12_why ∈ lw_ok := wd_1808
theorem wd_1806 : Cond.methodLink "UtilityBoardLaw" (92 : Nat) ({ cls := "UtilityBoardModel", name := "why", desc := "(III)I" } : MethodName) ∈ lw_ok := lw_ok_mem (tb_7 _ (List.mem_of_getElem? (i := 28) (by decide +kernel))) rfl
theorem cv__law_92 : CVW "UtilityBoardLaw" 92 yX12_why.cls yX12_why cX12_why 4 (some .int) 3 := ⟨wd_1806, wm_X12_why, ws_X12_why, wi_X12_why, wc_X12_why, wn_X12_why, wp_X12_why⟩
theorem wd_1062 : Cond.code ({ cls := "UtilityBoard", name := "makes", desc := "(IIIZ)I" } : MethodName) prog_1_method_20_code (9 : Nat) (Option.some .int) ∈ lw_ok := lw_ok_mem (tb_4 _ (List.mem_of_getElem? (i := 4) rfl)) rfl
theorem wc_X11_makes : Cond.code yX11_makes cX11_makes 9 (some .int) ∈ lw_ok := wd_1062
theorem wi_X11_makes : Cond.initialized yX11_makes.cls ∈ lw_ok := wd_99
theorem wn_X11_makes : notMH yX11_makes := ⟨by decide, by decide⟩
theorem wp_X11_makes : (parseMethodDescriptor yX11_makes.desc).map (fun d => d.parameters.length) = some 4 := by decide +kernel
theorem wd_1060 : Cond.instanceMethod ({ cls := "UtilityBoard", name := "makes", desc := "(IIIZ)I" } : MethodName) ∈ lw_ok := lw_ok_mem (tb_4 _ (List.mem_of_getElem? (i := 2) (by decide +kernel))) rfl
theorem wm_X11_makes : Cond.instanceMethod yX11_makes ∈ lw_ok := wd_1060
theorem wd_1061 : Cond.selects "UtilityBoard" ({ cls := "UtilityBoard", name := "makes", desc := "(IIIZ)I" } : MethodName) ({ cls := "UtilityBoard", name := "makes", desc := "(IIIZ)I" } : MethodName) ∈ lw_ok := lw_ok_mem (tb_4 _ (List.mem_of_getElem? (i := 3) (by decide +kernel))) rfl
theorem ws_X11_makes : Cond.selects yX11_makes.cls yX11_makes yX11_makes ∈ lw_ok := wd_1061
theorem wd_1059 : Cond.methodLink "UtilityBoardLaw" (93 : Nat) ({ cls := "UtilityBoard", name := "makes", desc := "(IIIZ)I" } : MethodName) ∈ lw_ok := lw_ok_mem (tb_4 _ (List.mem_of_getElem? (i := 1) (by decide +kernel))) rfl
theorem cv__law_93 : CVW "UtilityBoardLaw" 93 yX11_makes.cls yX11_makes cX11_makes 9 (some .int) 4 := ⟨wd_1059, wm_X11_makes, ws_X11_makes, wi_X11_makes, wc_X11_makes, wn_X11_makes, wp_X11_makes⟩
theorem wd_1813 : Cond.code ({ cls := "UtilityBoardModel", name := "makes", desc := "(IIIZ)I" } : MethodName) prog_14_method_64_code (7 : Nat) (Option.some .int) ∈ lw_ok := lw_ok_mem (tb_7 _ (List.mem_of_getElem? (i := 35) rfl)) rfl
theorem wc_X12_makes : Cond.code yX12_makes cX12_makes 7 (some .int) ∈ lw_ok := wd_1813
theorem wi_X12_makes : Cond.initialized yX12_makes.cls ∈ lw_ok := wd_106
theorem wn_X12_makes : notMH yX12_makes := ⟨by decide, by decide⟩
theorem wp_X12_makes : (parseMethodDescriptor yX12_makes.desc).map (fun d => d.parameters.length) = some 4 := by decide +kernel
theorem wd_1811 : Cond.instanceMethod ({ cls := "UtilityBoardModel", name := "makes", desc := "(IIIZ)I" } : MethodName) ∈ lw_ok := lw_ok_mem (tb_7 _ (List.mem_of_getElem? (i := 33) (by decide +kernel))) rfl
theorem wm_X12_makes : Cond.instanceMethod yX12_makes ∈ lw_ok := wd_1811
theorem wd_1812 : Cond.selects "UtilityBoardModel" ({ cls := "UtilityBoardModel", name := "makes", desc := "(IIIZ)I" } : MethodName) ({ cls := "UtilityBoardModel", name := "makes", desc := "(IIIZ)I" } : MethodName) ∈ lw_ok := lw_ok_mem (tb_7 _ (List.mem_of_getElem? (i := 34) (by decide +kernel))) rfl
theorem ws_X12_makes : Cond.selects yX12_makes.cls yX12_makes yX12_makes ∈ lw_ok := wd_1812
theorem wd_1810 : Cond.methodLink "UtilityBoardLaw" (97 : Nat) ({ cls := "UtilityBoardModel", name := "makes", desc := "(IIIZ)I" } : MethodName) ∈ lw_ok := lw_ok_mem (tb_7 _ (List.mem_of_getElem? (i := 32) (by decide +kernel))) rfl
theorem cv__law_97 : CVW "UtilityBoardLaw" 97 yX12_makes.cls yX12_makes cX12_makes 7 (some .int) 4 := ⟨wd_1810, wm_X12_makes, ws_X12_makes, wi_X12_makes, wc_X12_makes, wn_X12_makes, wp_X12_makes⟩
theorem wd_1099 : Cond.code ({ cls := "UtilityBoard", name := "person", desc := "(I)I" } : MethodName) prog_1_method_21_code (2 : Nat) (Option.some .int) ∈ lw_ok := lw_ok_mem (tb_4 _ (List.mem_of_getElem? (i := 41) rfl)) rfl
theorem wc_X11_person : Cond.code yX11_person cX11_person 2 (some .int) ∈ lw_ok := wd_1099
theorem wi_X11_person : Cond.initialized yX11_person.cls ∈ lw_ok := wd_99
theorem wn_X11_person : notMH yX11_person := ⟨by decide, by decide⟩
theorem wp_X11_person : (parseMethodDescriptor yX11_person.desc).map (fun d => d.parameters.length) = some 1 := by decide +kernel
theorem wd_1097 : Cond.instanceMethod ({ cls := "UtilityBoard", name := "person", desc := "(I)I" } : MethodName) ∈ lw_ok := lw_ok_mem (tb_4 _ (List.mem_of_getElem? (i := 39) (by decide +kernel))) rfl
theorem wm_X11_person : Cond.instanceMethod yX11_person ∈ lw_ok := wd_1097
theorem wd_1098 : Cond.selects "UtilityBoard" ({ cls := "UtilityBoard", name := "person", desc := "(I)I" } : MethodName) ({ cls := "UtilityBoard", name := "person", desc := "(I)I" } : MethodName) ∈ lw_ok := lw_ok_mem (tb_4 _ (List.mem_of_getElem? (i := 40) (by decide +kernel))) rfl
theorem ws_X11_person : Cond.selects yX11_person.cls yX11_person yX11_person ∈ lw_ok := wd_1098
theorem wd_1096 : Cond.methodLink "UtilityBoardLaw" (98 : Nat) ({ cls := "UtilityBoard", name := "person", desc := "(I)I" } : MethodName) ∈ lw_ok := lw_ok_mem (tb_4 _ (List.mem_of_getElem? (i := 38) (by decide +kernel))) rfl
theorem cv__law_98 : CVW "UtilityBoardLaw" 98 yX11_person.cls yX11_person cX11_person 2 (some .int) 1 := ⟨wd_1096, wm_X11_person, ws_X11_person, wi_X11_person, wc_X11_person, wn_X11_person, wp_X11_person⟩
theorem wd_1820 : Cond.code ({ cls := "UtilityBoardModel", name := "person", desc := "(I)I" } : MethodName) prog_14_method_66_code (2 : Nat) (Option.some .int) ∈ lw_ok := lw_ok_mem (tb_7 _ (List.mem_of_getElem? (i := 42) rfl)) rfl
theorem wc_X12_person : Cond.code yX12_person cX12_person 2 (some .int) ∈ lw_ok := wd_1820
theorem wi_X12_person : Cond.initialized yX12_person.cls ∈ lw_ok := wd_106
theorem wn_X12_person : notMH yX12_person := ⟨by decide, by decide⟩
theorem wp_X12_person : (parseMethodDescriptor yX12_person.desc).map (fun d => d.parameters.length) = some 1 := by decide +kernel
theorem wd_1818 : Cond.instanceMethod ({ cls := "UtilityBoardModel", name := "person", desc := "(I)I" } : MethodName) ∈ lw_ok := lw_ok_mem (tb_7 _ (List.mem_of_getElem? (i := 40) (by decide +kernel))) rfl
theorem wm_X12_person : Cond.instanceMethod yX12_person ∈ lw_ok := wd_1818
theorem wd_1819 : Cond.selects "UtilityBoardModel" ({ cls := "UtilityBoardModel", name := "person", desc := "(I)I" } : MethodName) ({ cls := "UtilityBoardModel", name := "person", desc := "(I)I" } : MethodName) ∈ lw_ok := lw_ok_mem (tb_7 _ (List.mem_of_getElem? (i := 41) (by decide +kernel))) rfl
theorem ws_X12_person : Cond.selects yX12_person.cls yX12_person yX12_person ∈ lw_ok := wd_1819
theorem wd_1817 : Cond.methodLink "UtilityBoardLaw" (101 : Nat) ({ cls := "UtilityBoardModel", name := "person", desc := "(I)I" } : MethodName) ∈ lw_ok := lw_ok_mem (tb_7 _ (List.mem_of_getElem? (i := 39) (by decide +kernel))) rfl
theorem cv__law_101 : CVW "UtilityBoardLaw" 101 yX12_person.cls yX12_person cX12_person 2 (some .int) 1 := ⟨wd_1817, wm_X12_person, ws_X12_person, wi_X12_person, wc_X12_person, wn_X12_person, wp_X12_person⟩
theorem wd_1117 : Cond.code ({ cls := "UtilityBoard", name := "price", desc := "(II)Z" } : MethodName) prog_1_method_22_code (4 : Nat) (Option.some .boolean) ∈ lw_ok := lw_ok_mem (tb_4 _ (List.mem_of_getElem? (i := 59) rfl)) rfl
theorem wc_X11_price : Cond.code yX11_price cX11_price 4 (some .boolean) ∈ lw_ok := wd_1117
theorem wi_X11_price : Cond.initialized yX11_price.cls ∈ lw_ok := wd_99
theorem wn_X11_price : notMH yX11_price := ⟨by decide, by decide⟩
theorem wp_X11_price : (parseMethodDescriptor yX11_price.desc).map (fun d => d.parameters.length) = some 2 := by decide +kernel
theorem wd_1115 : Cond.instanceMethod ({ cls := "UtilityBoard", name := "price", desc := "(II)Z" } : MethodName) ∈ lw_ok := lw_ok_mem (tb_4 _ (List.mem_of_getElem? (i := 57) (by decide +kernel))) rfl
theorem wm_X11_price : Cond.instanceMethod yX11_price ∈ lw_ok := wd_1115
theorem wd_1116 : Cond.selects "UtilityBoard" ({ cls := "UtilityBoard", name := "price", desc := "(II)Z" } : MethodName) ({ cls := "UtilityBoard", name := "price", desc := "(II)Z" } : MethodName) ∈ lw_ok := lw_ok_mem (tb_4 _ (List.mem_of_getElem? (i := 58) (by decide +kernel))) rfl
theorem ws_X11_price : Cond.selects yX11_price.cls yX11_price yX11_price ∈ lw_ok := wd_1116
theorem wd_1114 : Cond.methodLink "UtilityBoardLaw" (102 : Nat) ({ cls := "UtilityBoard", name := "price", desc := "(II)Z" } : MethodName) ∈ lw_ok := lw_ok_mem (tb_4 _ (List.mem_of_getElem? (i := 56) (by decide +kernel))) rfl
theorem cv__law_102 : CVW "UtilityBoardLaw" 102 yX11_price.cls yX11_price cX11_price 4 (some .boolean) 2 := ⟨wd_1114, wm_X11_price, ws_X11_price, wi_X11_price, wc_X11_price, wn_X11_price, wp_X11_price⟩
theorem wd_1824 : Cond.code ({ cls := "UtilityBoardModel", name := "price", desc := "(II)Z" } : MethodName) prog_14_method_67_code (3 : Nat) (Option.some .boolean) ∈ lw_ok := lw_ok_mem (tb_7 _ (List.mem_of_getElem? (i := 46) rfl)) rfl
theorem wc_X12_price : Cond.code yX12_price cX12_price 3 (some .boolean) ∈ lw_ok := wd_1824
theorem wi_X12_price : Cond.initialized yX12_price.cls ∈ lw_ok := wd_106
theorem wn_X12_price : notMH yX12_price := ⟨by decide, by decide⟩
theorem wp_X12_price : (parseMethodDescriptor yX12_price.desc).map (fun d => d.parameters.length) = some 2 := by decide +kernel
theorem wd_1822 : Cond.instanceMethod ({ cls := "UtilityBoardModel", name := "price", desc := "(II)Z" } : MethodName) ∈ lw_ok := lw_ok_mem (tb_7 _ (List.mem_of_getElem? (i := 44) (by decide +kernel))) rfl
theorem wm_X12_price : Cond.instanceMethod yX12_price ∈ lw_ok := wd_1822
theorem wd_1823 : Cond.selects "UtilityBoardModel" ({ cls := "UtilityBoardModel", name := "price", desc := "(II)Z" } : MethodName) ({ cls := "UtilityBoardModel", name := "price", desc := "(II)Z" } : MethodName) ∈ lw_ok := lw_ok_mem (tb_7 _ (List.mem_of_getElem? (i := 45) (by decide +kernel))) rfl
theorem ws_X12_price : Cond.selects yX12_price.cls yX12_price yX12_price ∈ lw_ok := wd_1823
theorem wd_1821 : Cond.methodLink "UtilityBoardLaw" (106 : Nat) ({ cls := "UtilityBoardModel", name := "price", desc := "(II)Z" } : MethodName) ∈ lw_ok := lw_ok_mem (tb_7 _ (List.mem_of_getElem? (i := 43) (by decide +kernel))) rfl
theorem cv__law_106 : CVW "UtilityBoardLaw" 106 yX12_price.cls yX12_price cX12_price 3 (some .boolean) 2 := ⟨wd_1821, wm_X12_price, ws_X12_price, wi_X12_price, wc_X12_price, wn_X12_price, wp_X12_price⟩
theorem wd_1122 : Cond.code ({ cls := "UtilityBoard", name := "buys", desc := "(IIZ)I" } : MethodName) prog_1_method_23_code (9 : Nat) (Option.some .int) ∈ lw_ok := lw_ok_mem (tb_4 _ (List.mem_of_getElem? (i := 64) rfl)) rfl
theorem wc_X11_buys : Cond.code yX11_buys cX11_buys 9 (some .int) ∈ lw_ok := wd_1122
theorem wi_X11_buys : Cond.initialized yX11_buys.cls ∈ lw_ok := wd_99
theorem wn_X11_buys : notMH yX11_buys := ⟨by decide, by decide⟩
theorem wp_X11_buys : (parseMethodDescriptor yX11_buys.desc).map (fun d => d.parameters.length) = some 3 := by decide +kernel
theorem wd_1120 : Cond.instanceMethod ({ cls := "UtilityBoard", name := "buys", desc := "(IIZ)I" } : MethodName) ∈ lw_ok := lw_ok_mem (tb_4 _ (List.mem_of_getElem? (i := 62) (by decide +kernel))) rfl
theorem wm_X11_buys : Cond.instanceMethod yX11_buys ∈ lw_ok := wd_1120
theorem wd_1121 : Cond.selects "UtilityBoard" ({ cls := "UtilityBoard", name := "buys", desc := "(IIZ)I" } : MethodName) ({ cls := "UtilityBoard", name := "buys", desc := "(IIZ)I" } : MethodName) ∈ lw_ok := lw_ok_mem (tb_4 _ (List.mem_of_getElem? (i := 63) (by decide +kernel))) rfl
theorem ws_X11_buys : Cond.selects yX11_buys.cls yX11_buys yX11_buys ∈ lw_ok := wd_1121
theorem wd_1119 : Cond.methodLink "UtilityBoardLaw" (107 : Nat) ({ cls := "UtilityBoard", name := "buys", desc := "(IIZ)I" } : MethodName) ∈ lw_ok := lw_ok_mem (tb_4 _ (List.mem_of_getElem? (i := 61) (by decide +kernel))) rfl
theorem cv__law_107 : CVW "UtilityBoardLaw" 107 yX11_buys.cls yX11_buys cX11_buys 9 (some .int) 3 := ⟨wd_1119, wm_X11_buys, ws_X11_buys, wi_X11_buys, wc_X11_buys, wn_X11_buys, wp_X11_buys⟩
theorem wd_1828 : Cond.code ({ cls := "UtilityBoardModel", name := "buys", desc := "(IIZ)I" } : MethodName) prog_14_method_69_code (7 : Nat) (Option.some .int) ∈ lw_ok := lw_ok_mem (tb_7 _ (List.mem_of_getElem? (i := 50) rfl)) rfl
theorem wc_X12_buys : Cond.code yX12_buys cX12_buys 7 (some .int) ∈ lw_ok := wd_1828
theorem wi_X12_buys : Cond.initialized yX12_buys.cls ∈ lw_ok := wd_106
theorem wn_X12_buys : notMH yX12_buys := ⟨by decide, by decide⟩
theorem wp_X12_buys : (parseMethodDescriptor yX12_buys.desc).map (fun d => d.parameters.length) = some 3 := by decide +kernel
theorem wd_1826 : Cond.instanceMethod ({ cls := "UtilityBoardModel", name := "buys", desc := "(IIZ)I" } : MethodName) ∈ lw_ok := lw_ok_mem (tb_7 _ (List.mem_of_getElem? (i := 48) (by decide +kernel))) rfl
theorem wm_X12_buys : Cond.instanceMethod yX12_buys ∈ lw_ok := wd_1826
theorem wd_1827 : Cond.selects "UtilityBoardModel" ({ cls := "UtilityBoardModel", name := "buys", desc := "(IIZ)I" } : MethodName) ({ cls := "UtilityBoardModel", name := "buys", desc := "(IIZ)I" } : MethodName) ∈ lw_ok := lw_ok_mem (tb_7 _ (List.mem_of_getElem? (i := 49) (by decide +kernel))) rfl
theorem ws_X12_buys : Cond.selects yX12_buys.cls yX12_buys yX12_buys ∈ lw_ok := wd_1827
theorem wd_1825 : Cond.methodLink "UtilityBoardLaw" (111 : Nat) ({ cls := "UtilityBoardModel", name := "buys", desc := "(IIZ)I" } : MethodName) ∈ lw_ok := lw_ok_mem (tb_7 _ (List.mem_of_getElem? (i := 47) (by decide +kernel))) rfl
theorem cv__law_111 : CVW "UtilityBoardLaw" 111 yX12_buys.cls yX12_buys cX12_buys 7 (some .int) 3 := ⟨wd_1825, wm_X12_buys, ws_X12_buys, wi_X12_buys, wc_X12_buys, wn_X12_buys, wp_X12_buys⟩
theorem wd_1139 : Cond.code ({ cls := "UtilityBoard", name := "gone", desc := "(II)I" } : MethodName) prog_1_method_24_code (5 : Nat) (Option.some .int) ∈ lw_ok := lw_ok_mem (tb_4 _ (List.mem_of_getElem? (i := 81) rfl)) rfl
theorem wc_X11_gone : Cond.code yX11_gone cX11_gone 5 (some .int) ∈ lw_ok := wd_1139
theorem wi_X11_gone : Cond.initialized yX11_gone.cls ∈ lw_ok := wd_99
theorem wn_X11_gone : notMH yX11_gone := ⟨by decide, by decide⟩
theorem wp_X11_gone : (parseMethodDescriptor yX11_gone.desc).map (fun d => d.parameters.length) = some 2 := by decide +kernel
theorem wd_1137 : Cond.instanceMethod ({ cls := "UtilityBoard", name := "gone", desc := "(II)I" } : MethodName) ∈ lw_ok := lw_ok_mem (tb_4 _ (List.mem_of_getElem? (i := 79) (by decide +kernel))) rfl
theorem wm_X11_gone : Cond.instanceMethod yX11_gone ∈ lw_ok := wd_1137
theorem wd_1138 : Cond.selects "UtilityBoard" ({ cls := "UtilityBoard", name := "gone", desc := "(II)I" } : MethodName) ({ cls := "UtilityBoard", name := "gone", desc := "(II)I" } : MethodName) ∈ lw_ok := lw_ok_mem (tb_4 _ (List.mem_of_getElem? (i := 80) (by decide +kernel))) rfl
theorem ws_X11_gone : Cond.selects yX11_gone.cls yX11_gone yX11_gone ∈ lw_ok := wd_1138
theorem wd_1136 : Cond.methodLink "UtilityBoardLaw" (112 : Nat) ({ cls := "UtilityBoard", name := "gone", desc := "(II)I" } : MethodName) ∈ lw_ok := lw_ok_mem (tb_4 _ (List.mem_of_getElem? (i := 78) (by decide +kernel))) rfl
theorem cv__law_112 : CVW "UtilityBoardLaw" 112 yX11_gone.cls yX11_gone cX11_gone 5 (some .int) 2 := ⟨wd_1136, wm_X11_gone, ws_X11_gone, wi_X11_gone, wc_X11_gone, wn_X11_gone, wp_X11_gone⟩
theorem wd_1840 : Cond.code ({ cls := "UtilityBoardModel", name := "gone", desc := "(II)I" } : MethodName) prog_14_method_70_code (3 : Nat) (Option.some .int) ∈ lw_ok := lw_ok_mem (tb_7 _ (List.mem_of_getElem? (i := 62) rfl)) rfl
theorem wc_X12_gone : Cond.code yX12_gone cX12_gone 3 (some .int) ∈ lw_ok := wd_1840
theorem wi_X12_gone : Cond.initialized yX12_gone.cls ∈ lw_ok := wd_106
theorem wn_X12_gone : notMH yX12_gone := ⟨by decide, by decide⟩
theorem wp_X12_gone : (parseMethodDescriptor yX12_gone.desc).map (fun d => d.parameters.length) = some 2 := by decide +kernel
theorem wd_1838 : Cond.instanceMethod ({ cls := "UtilityBoardModel", name := "gone", desc := "(II)I" } : MethodName) ∈ lw_ok := lw_ok_mem (tb_7 _ (List.mem_of_getElem? (i := 60) (by decide +kernel))) rfl
theorem wm_X12_gone : Cond.instanceMethod yX12_gone ∈ lw_ok := wd_1838
theorem wd_1839 : Cond.selects "UtilityBoardModel" ({ cls := "UtilityBoardModel", name := "gone", desc := "(II)I" } : MethodName) ({ cls := "UtilityBoardModel", name := "gone", desc := "(II)I" } : MethodName) ∈ lw_ok := lw_ok_mem (tb_7 _ (List.mem_of_getElem? (i := 61) (by decide +kernel))) rfl
theorem ws_X12_gone : Cond.selects yX12_gone.cls yX12_gone yX12_gone ∈ lw_ok := wd_1839
theorem wd_1837 : Cond.methodLink "UtilityBoardLaw" (115 : Nat) ({ cls := "UtilityBoardModel", name := "gone", desc := "(II)I" } : MethodName) ∈ lw_ok := lw_ok_mem (tb_7 _ (List.mem_of_getElem? (i := 59) (by decide +kernel))) rfl
theorem cv__law_115 : CVW "UtilityBoardLaw" 115 yX12_gone.cls yX12_gone cX12_gone 3 (some .int) 2 := ⟨wd_1837, wm_X12_gone, ws_X12_gone, wi_X12_gone, wc_X12_gone, wn_X12_gone, wp_X12_gone⟩
theorem wd_1143 : Cond.code ({ cls := "UtilityBoard", name := "docket", desc := "(IIII)I" } : MethodName) prog_1_method_25_code (5 : Nat) (Option.some .int) ∈ lw_ok := lw_ok_mem (tb_4 _ (List.mem_of_getElem? (i := 85) rfl)) rfl
theorem wc_X11_docket : Cond.code yX11_docket cX11_docket 5 (some .int) ∈ lw_ok := wd_1143
theorem wi_X11_docket : Cond.initialized yX11_docket.cls ∈ lw_ok := wd_99
theorem wn_X11_docket : notMH yX11_docket := ⟨by decide, by decide⟩
theorem wp_X11_docket : (parseMethodDescriptor yX11_docket.desc).map (fun d => d.parameters.length) = some 4 := by decide +kernel
theorem wd_1141 : Cond.instanceMethod ({ cls := "UtilityBoard", name := "docket", desc := "(IIII)I" } : MethodName) ∈ lw_ok := lw_ok_mem (tb_4 _ (List.mem_of_getElem? (i := 83) (by decide +kernel))) rfl
theorem wm_X11_docket : Cond.instanceMethod yX11_docket ∈ lw_ok := wd_1141
theorem wd_1142 : Cond.selects "UtilityBoard" ({ cls := "UtilityBoard", name := "docket", desc := "(IIII)I" } : MethodName) ({ cls := "UtilityBoard", name := "docket", desc := "(IIII)I" } : MethodName) ∈ lw_ok := lw_ok_mem (tb_4 _ (List.mem_of_getElem? (i := 84) (by decide +kernel))) rfl
theorem ws_X11_docket : Cond.selects yX11_docket.cls yX11_docket yX11_docket ∈ lw_ok := wd_1142
theorem wd_1140 : Cond.methodLink "UtilityBoardLaw" (116 : Nat) ({ cls := "UtilityBoard", name := "docket", desc := "(IIII)I" } : MethodName) ∈ lw_ok := lw_ok_mem (tb_4 _ (List.mem_of_getElem? (i := 82) (by decide +kernel))) rfl
theorem cv__law_116 : CVW "UtilityBoardLaw" 116 yX11_docket.cls yX11_docket cX11_docket 5 (some .int) 4 := ⟨wd_1140, wm_X11_docket, ws_X11_docket, wi_X11_docket, wc_X11_docket, wn_X11_docket, wp_X11_docket⟩
theorem wd_1848 : Cond.code ({ cls := "UtilityBoardModel", name := "docket", desc := "(IIII)I" } : MethodName) prog_14_method_72_code (5 : Nat) (Option.some .int) ∈ lw_ok := lw_ok_mem (tb_7 _ (List.mem_of_getElem? (i := 70) rfl)) rfl
theorem wc_X12_docket : Cond.code yX12_docket cX12_docket 5 (some .int) ∈ lw_ok := wd_1848
theorem wi_X12_docket : Cond.initialized yX12_docket.cls ∈ lw_ok := wd_106
theorem wn_X12_docket : notMH yX12_docket := ⟨by decide, by decide⟩
theorem wp_X12_docket : (parseMethodDescriptor yX12_docket.desc).map (fun d => d.parameters.length) = some 4 := by decide +kernel
theorem wd_1846 : Cond.instanceMethod ({ cls := "UtilityBoardModel", name := "docket", desc := "(IIII)I" } : MethodName) ∈ lw_ok := lw_ok_mem (tb_7 _ (List.mem_of_getElem? (i := 68) (by decide +kernel))) rfl
theorem wm_X12_docket : Cond.instanceMethod yX12_docket ∈ lw_ok := wd_1846
theorem wd_1847 : Cond.selects "UtilityBoardModel" ({ cls := "UtilityBoardModel", name := "docket", desc := "(IIII)I" } : MethodName) ({ cls := "UtilityBoardModel", name := "docket", desc := "(IIII)I" } : MethodName) ∈ lw_ok := lw_ok_mem (tb_7 _ (List.mem_of_getElem? (i := 69) (by decide +kernel))) rfl
theorem ws_X12_docket : Cond.selects yX12_docket.cls yX12_docket yX12_docket ∈ lw_ok := wd_1847
theorem wd_1845 : Cond.methodLink "UtilityBoardLaw" (119 : Nat) ({ cls := "UtilityBoardModel", name := "docket", desc := "(IIII)I" } : MethodName) ∈ lw_ok := lw_ok_mem (tb_7 _ (List.mem_of_getElem? (i := 67) (by decide +kernel))) rfl
theorem cv__law_119 : CVW "UtilityBoardLaw" 119 yX12_docket.cls yX12_docket cX12_docket 5 (some .int) 4 := ⟨wd_1845, wm_X12_docket, ws_X12_docket, wi_X12_docket, wc_X12_docket, wn_X12_docket, wp_X12_docket⟩
theorem wd_1172 : Cond.code ({ cls := "UtilityBoard", name := "first", desc := "(II)I" } : MethodName) prog_1_method_26_code (5 : Nat) (Option.some .int) ∈ lw_ok := lw_ok_mem (tb_4 _ (List.mem_of_getElem? (i := 114) rfl)) rfl
theorem wc_X11_first : Cond.code yX11_first cX11_first 5 (some .int) ∈ lw_ok := wd_1172
theorem wi_X11_first : Cond.initialized yX11_first.cls ∈ lw_ok := wd_99
theorem wn_X11_first : notMH yX11_first := ⟨by decide, by decide⟩
theorem wp_X11_first : (parseMethodDescriptor yX11_first.desc).map (fun d => d.parameters.length) = some 2 := by decide +kernel
theorem wd_1170 : Cond.instanceMethod ({ cls := "UtilityBoard", name := "first", desc := "(II)I" } : MethodName) ∈ lw_ok := lw_ok_mem (tb_4 _ (List.mem_of_getElem? (i := 112) (by decide +kernel))) rfl
theorem wm_X11_first : Cond.instanceMethod yX11_first ∈ lw_ok := wd_1170
theorem wd_1171 : Cond.selects "UtilityBoard" ({ cls := "UtilityBoard", name := "first", desc := "(II)I" } : MethodName) ({ cls := "UtilityBoard", name := "first", desc := "(II)I" } : MethodName) ∈ lw_ok := lw_ok_mem (tb_4 _ (List.mem_of_getElem? (i := 113) (by decide +kernel))) rfl
theorem ws_X11_first : Cond.selects yX11_first.cls yX11_first yX11_first ∈ lw_ok := wd_1171
theorem wd_1169 : Cond.methodLink "UtilityBoardLaw" (120 : Nat) ({ cls := "UtilityBoard", name := "first", desc := "(II)I" } : MethodName) ∈ lw_ok := lw_ok_mem (tb_4 _ (List.mem_of_getElem? (i := 111) (by decide +kernel))) rfl
theorem cv__law_120 : CVW "UtilityBoardLaw" 120 yX11_first.cls yX11_first cX11_first 5 (some .int) 2 := ⟨wd_1169, wm_X11_first, ws_X11_first, wi_X11_first, wc_X11_first, wn_X11_first, wp_X11_first⟩
theorem wd_1852 : Cond.code ({ cls := "UtilityBoardModel", name := "first", desc := "(II)I" } : MethodName) prog_14_method_75_code (4 : Nat) (Option.some .int) ∈ lw_ok := lw_ok_mem (tb_7 _ (List.mem_of_getElem? (i := 74) rfl)) rfl
theorem wc_X12_first : Cond.code yX12_first cX12_first 4 (some .int) ∈ lw_ok := wd_1852
theorem wi_X12_first : Cond.initialized yX12_first.cls ∈ lw_ok := wd_106
theorem wn_X12_first : notMH yX12_first := ⟨by decide, by decide⟩
theorem wp_X12_first : (parseMethodDescriptor yX12_first.desc).map (fun d => d.parameters.length) = some 2 := by decide +kernel
theorem wd_1850 : Cond.instanceMethod ({ cls := "UtilityBoardModel", name := "first", desc := "(II)I" } : MethodName) ∈ lw_ok := lw_ok_mem (tb_7 _ (List.mem_of_getElem? (i := 72) (by decide +kernel))) rfl
theorem wm_X12_first : Cond.instanceMethod yX12_first ∈ lw_ok := wd_1850
theorem wd_1851 : Cond.selects "UtilityBoardModel" ({ cls := "UtilityBoardModel", name := "first", desc := "(II)I" } : MethodName) ({ cls := "UtilityBoardModel", name := "first", desc := "(II)I" } : MethodName) ∈ lw_ok := lw_ok_mem (tb_7 _ (List.mem_of_getElem? (i := 73) (by decide +kernel))) rfl
theorem ws_X12_first : Cond.selects yX12_first.cls yX12_first yX12_first ∈ lw_ok := wd_1851
theorem wd_1849 : Cond.methodLink "UtilityBoardLaw" (123 : Nat) ({ cls := "UtilityBoardModel", name := "first", desc := "(II)I" } : MethodName) ∈ lw_ok := lw_ok_mem (tb_7 _ (List.mem_of_getElem? (i := 71) (by decide +kernel))) rfl
theorem cv__law_123 : CVW "UtilityBoardLaw" 123 yX12_first.cls yX12_first cX12_first 4 (some .int) 2 := ⟨wd_1849, wm_X12_first, ws_X12_first, wi_X12_first, wc_X12_first, wn_X12_first, wp_X12_first⟩
theorem wd_1184 : Cond.code ({ cls := "UtilityBoard", name := "waits", desc := "(II)I" } : MethodName) prog_1_method_27_code (3 : Nat) (Option.some .int) ∈ lw_ok := lw_ok_mem (tb_4 _ (List.mem_of_getElem? (i := 126) rfl)) rfl
theorem wc_X11_waits : Cond.code yX11_waits cX11_waits 3 (some .int) ∈ lw_ok := wd_1184
theorem wi_X11_waits : Cond.initialized yX11_waits.cls ∈ lw_ok := wd_99
theorem wn_X11_waits : notMH yX11_waits := ⟨by decide, by decide⟩
theorem wp_X11_waits : (parseMethodDescriptor yX11_waits.desc).map (fun d => d.parameters.length) = some 2 := by decide +kernel
theorem wd_1182 : Cond.instanceMethod ({ cls := "UtilityBoard", name := "waits", desc := "(II)I" } : MethodName) ∈ lw_ok := lw_ok_mem (tb_4 _ (List.mem_of_getElem? (i := 124) (by decide +kernel))) rfl
theorem wm_X11_waits : Cond.instanceMethod yX11_waits ∈ lw_ok := wd_1182
theorem wd_1183 : Cond.selects "UtilityBoard" ({ cls := "UtilityBoard", name := "waits", desc := "(II)I" } : MethodName) ({ cls := "UtilityBoard", name := "waits", desc := "(II)I" } : MethodName) ∈ lw_ok := lw_ok_mem (tb_4 _ (List.mem_of_getElem? (i := 125) (by decide +kernel))) rfl
theorem ws_X11_waits : Cond.selects yX11_waits.cls yX11_waits yX11_waits ∈ lw_ok := wd_1183
theorem wd_1181 : Cond.methodLink "UtilityBoardLaw" (124 : Nat) ({ cls := "UtilityBoard", name := "waits", desc := "(II)I" } : MethodName) ∈ lw_ok := lw_ok_mem (tb_4 _ (List.mem_of_getElem? (i := 123) (by decide +kernel))) rfl
theorem cv__law_124 : CVW "UtilityBoardLaw" 124 yX11_waits.cls yX11_waits cX11_waits 3 (some .int) 2 := ⟨wd_1181, wm_X11_waits, ws_X11_waits, wi_X11_waits, wc_X11_waits, wn_X11_waits, wp_X11_waits⟩
theorem wd_1864 : Cond.code ({ cls := "UtilityBoardModel", name := "waits", desc := "(II)I" } : MethodName) prog_14_method_76_code (3 : Nat) (Option.some .int) ∈ lw_ok := lw_ok_mem (tb_7 _ (List.mem_of_getElem? (i := 86) rfl)) rfl
theorem wc_X12_waits : Cond.code yX12_waits cX12_waits 3 (some .int) ∈ lw_ok := wd_1864
theorem wi_X12_waits : Cond.initialized yX12_waits.cls ∈ lw_ok := wd_106
theorem wn_X12_waits : notMH yX12_waits := ⟨by decide, by decide⟩
theorem wp_X12_waits : (parseMethodDescriptor yX12_waits.desc).map (fun d => d.parameters.length) = some 2 := by decide +kernel
theorem wd_1862 : Cond.instanceMethod ({ cls := "UtilityBoardModel", name := "waits", desc := "(II)I" } : MethodName) ∈ lw_ok := lw_ok_mem (tb_7 _ (List.mem_of_getElem? (i := 84) (by decide +kernel))) rfl
theorem wm_X12_waits : Cond.instanceMethod yX12_waits ∈ lw_ok := wd_1862
theorem wd_1863 : Cond.selects "UtilityBoardModel" ({ cls := "UtilityBoardModel", name := "waits", desc := "(II)I" } : MethodName) ({ cls := "UtilityBoardModel", name := "waits", desc := "(II)I" } : MethodName) ∈ lw_ok := lw_ok_mem (tb_7 _ (List.mem_of_getElem? (i := 85) (by decide +kernel))) rfl
theorem ws_X12_waits : Cond.selects yX12_waits.cls yX12_waits yX12_waits ∈ lw_ok := wd_1863
theorem wd_1861 : Cond.methodLink "UtilityBoardLaw" (127 : Nat) ({ cls := "UtilityBoardModel", name := "waits", desc := "(II)I" } : MethodName) ∈ lw_ok := lw_ok_mem (tb_7 _ (List.mem_of_getElem? (i := 83) (by decide +kernel))) rfl
theorem cv__law_127 : CVW "UtilityBoardLaw" 127 yX12_waits.cls yX12_waits cX12_waits 3 (some .int) 2 := ⟨wd_1861, wm_X12_waits, ws_X12_waits, wi_X12_waits, wc_X12_waits, wn_X12_waits, wp_X12_waits⟩
theorem wd_1188 : Cond.code ({ cls := "UtilityBoard", name := "bombed", desc := "(I)I" } : MethodName) prog_1_method_28_code (5 : Nat) (Option.some .int) ∈ lw_ok := lw_ok_mem (tb_4 _ (List.mem_of_getElem? (i := 130) rfl)) rfl
theorem wc_X11_bombed : Cond.code yX11_bombed cX11_bombed 5 (some .int) ∈ lw_ok := wd_1188
theorem wi_X11_bombed : Cond.initialized yX11_bombed.cls ∈ lw_ok := wd_99
theorem wn_X11_bombed : notMH yX11_bombed := ⟨by decide, by decide⟩
theorem wp_X11_bombed : (parseMethodDescriptor yX11_bombed.desc).map (fun d => d.parameters.length) = some 1 := by decide +kernel
theorem wd_1186 : Cond.instanceMethod ({ cls := "UtilityBoard", name := "bombed", desc := "(I)I" } : MethodName) ∈ lw_ok := lw_ok_mem (tb_4 _ (List.mem_of_getElem? (i := 128) (by decide +kernel))) rfl
theorem wm_X11_bombed : Cond.instanceMethod yX11_bombed ∈ lw_ok := wd_1186
theorem wd_1187 : Cond.selects "UtilityBoard" ({ cls := "UtilityBoard", name := "bombed", desc := "(I)I" } : MethodName) ({ cls := "UtilityBoard", name := "bombed", desc := "(I)I" } : MethodName) ∈ lw_ok := lw_ok_mem (tb_4 _ (List.mem_of_getElem? (i := 129) (by decide +kernel))) rfl
theorem ws_X11_bombed : Cond.selects yX11_bombed.cls yX11_bombed yX11_bombed ∈ lw_ok := wd_1187
theorem wd_1185 : Cond.methodLink "UtilityBoardLaw" (128 : Nat) ({ cls := "UtilityBoard", name := "bombed", desc := "(I)I" } : MethodName) ∈ lw_ok := lw_ok_mem (tb_4 _ (List.mem_of_getElem? (i := 127) (by decide +kernel))) rfl
theorem cv__law_128 : CVW "UtilityBoardLaw" 128 yX11_bombed.cls yX11_bombed cX11_bombed 5 (some .int) 1 := ⟨wd_1185, wm_X11_bombed, ws_X11_bombed, wi_X11_bombed, wc_X11_bombed, wn_X11_bombed, wp_X11_bombed⟩
theorem wd_1868 : Cond.code ({ cls := "UtilityBoardModel", name := "bombed", desc := "(I)I" } : MethodName) prog_14_method_77_code (4 : Nat) (Option.some .int) ∈ lw_ok := lw_ok_mem (tb_7 _ (List.mem_of_getElem? (i := 90) rfl)) rfl
theorem wc_X12_bombed : Cond.code yX12_bombed cX12_bombed 4 (some .int) ∈ lw_ok := wd_1868
theorem wi_X12_bombed : Cond.initialized yX12_bombed.cls ∈ lw_ok := wd_106
theorem wn_X12_bombed : notMH yX12_bombed := ⟨by decide, by decide⟩
theorem wp_X12_bombed : (parseMethodDescriptor yX12_bombed.desc).map (fun d => d.parameters.length) = some 1 := by decide +kernel
theorem wd_1866 : Cond.instanceMethod ({ cls := "UtilityBoardModel", name := "bombed", desc := "(I)I" } : MethodName) ∈ lw_ok := lw_ok_mem (tb_7 _ (List.mem_of_getElem? (i := 88) (by decide +kernel))) rfl
theorem wm_X12_bombed : Cond.instanceMethod yX12_bombed ∈ lw_ok := wd_1866
theorem wd_1867 : Cond.selects "UtilityBoardModel" ({ cls := "UtilityBoardModel", name := "bombed", desc := "(I)I" } : MethodName) ({ cls := "UtilityBoardModel", name := "bombed", desc := "(I)I" } : MethodName) ∈ lw_ok := lw_ok_mem (tb_7 _ (List.mem_of_getElem? (i := 89) (by decide +kernel))) rfl
theorem ws_X12_bombed : Cond.selects yX12_bombed.cls yX12_bombed yX12_bombed ∈ lw_ok := wd_1867
theorem wd_1865 : Cond.methodLink "UtilityBoardLaw" (131 : Nat) ({ cls := "UtilityBoardModel", name := "bombed", desc := "(I)I" } : MethodName) ∈ lw_ok := lw_ok_mem (tb_7 _ (List.mem_of_getElem? (i := 87) (by decide +kernel))) rfl
theorem cv__law_131 : CVW "UtilityBoardLaw" 131 yX12_bombed.cls yX12_bombed cX12_bombed 4 (some .int) 1 := ⟨wd_1865, wm_X12_bombed, ws_X12_bombed, wi_X12_bombed, wc_X12_bombed, wn_X12_bombed, wp_X12_bombed⟩
theorem wd_1192 : Cond.code ({ cls := "UtilityBoard", name := "seen", desc := "(III)Z" } : MethodName) prog_1_method_29_code (4 : Nat) (Option.some .boolean) ∈ lw_ok := lw_ok_mem (tb_4 _ (List.mem_of_getElem? (i := 134) rfl)) rfl
theorem wc_X11_seen : Cond.code yX11_seen cX11_seen 4 (some .boolean) ∈ lw_ok := wd_1192
theorem wi_X11_seen : Cond.initialized yX11_seen.cls ∈ lw_ok := wd_99
theorem wn_X11_seen : notMH yX11_seen := ⟨by decide, by decide⟩
theorem wp_X11_seen : (parseMethodDescriptor yX11_seen.desc).map (fun d => d.parameters.length) = some 3 := by decide +kernel
theorem wd_1190 : Cond.instanceMethod ({ cls := "UtilityBoard", name := "seen", desc := "(III)Z" } : MethodName) ∈ lw_ok := lw_ok_mem (tb_4 _ (List.mem_of_getElem? (i := 132) (by decide +kernel))) rfl
theorem wm_X11_seen : Cond.instanceMethod yX11_seen ∈ lw_ok := wd_1190
theorem wd_1191 : Cond.selects "UtilityBoard" ({ cls := "UtilityBoard", name := "seen", desc := "(III)Z" } : MethodName) ({ cls := "UtilityBoard", name := "seen", desc := "(III)Z" } : MethodName) ∈ lw_ok := lw_ok_mem (tb_4 _ (List.mem_of_getElem? (i := 133) (by decide +kernel))) rfl
theorem ws_X11_seen : Cond.selects yX11_seen.cls yX11_seen yX11_seen ∈ lw_ok := wd_1191
theorem wd_1189 : Cond.methodLink "UtilityBoardLaw" (132 : Nat) ({ cls := "UtilityBoard", name := "seen", desc := "(III)Z" } : MethodName) ∈ lw_ok := lw_ok_mem (tb_4 _ (List.mem_of_getElem? (i := 131) (by decide +kernel))) rfl
theorem cv__law_132 : CVW "UtilityBoardLaw" 132 yX11_seen.cls yX11_seen cX11_seen 4 (some .boolean) 3 := ⟨wd_1189, wm_X11_seen, ws_X11_seen, wi_X11_seen, wc_X11_seen, wn_X11_seen, wp_X11_seen⟩
theorem wd_1872 : Cond.code ({ cls := "UtilityBoardModel", name := "seen", desc := "(III)Z" } : MethodName) prog_14_method_78_code (4 : Nat) (Option.some .boolean) ∈ lw_ok := lw_ok_mem (tb_7 _ (List.mem_of_getElem? (i := 94) rfl)) rfl
theorem wc_X12_seen : Cond.code yX12_seen cX12_seen 4 (some .boolean) ∈ lw_ok := wd_1872
theorem wi_X12_seen : Cond.initialized yX12_seen.cls ∈ lw_ok := wd_106
theorem wn_X12_seen : notMH yX12_seen := ⟨by decide, by decide⟩
theorem wp_X12_seen : (parseMethodDescriptor yX12_seen.desc).map (fun d => d.parameters.length) = some 3 := by decide +kernel
theorem wd_1870 : Cond.instanceMethod ({ cls := "UtilityBoardModel", name := "seen", desc := "(III)Z" } : MethodName) ∈ lw_ok := lw_ok_mem (tb_7 _ (List.mem_of_getElem? (i := 92) (by decide +kernel))) rfl
theorem wm_X12_seen : Cond.instanceMethod yX12_seen ∈ lw_ok := wd_1870
theorem wd_1871 : Cond.selects "UtilityBoardModel" ({ cls := "UtilityBoardModel", name := "seen", desc := "(III)Z" } : MethodName) ({ cls := "UtilityBoardModel", name := "seen", desc := "(III)Z" } : MethodName) ∈ lw_ok := lw_ok_mem (tb_7 _ (List.mem_of_getElem? (i := 93) (by decide +kernel))) rfl
theorem ws_X12_seen : Cond.selects yX12_seen.cls yX12_seen yX12_seen ∈ lw_ok := wd_1871
theorem wd_1869 : Cond.methodLink "UtilityBoardLaw" (135 : Nat) ({ cls := "UtilityBoardModel", name := "seen", desc := "(III)Z" } : MethodName) ∈ lw_ok := lw_ok_mem (tb_7 _ (List.mem_of_getElem? (i := 91) (by decide +kernel))) rfl
theorem cv__law_135 : CVW "UtilityBoardLaw" 135 yX12_seen.cls yX12_seen cX12_seen 4 (some .boolean) 3 := ⟨wd_1869, wm_X12_seen, ws_X12_seen, wi_X12_seen, wc_X12_seen, wn_X12_seen, wp_X12_seen⟩
theorem wd_1196 : Cond.code ({ cls := "UtilityBoard", name := "falsely", desc := "(I)I" } : MethodName) prog_1_method_30_code (5 : Nat) (Option.some .int) ∈ lw_ok := lw_ok_mem (tb_4 _ (List.mem_of_getElem? (i := 138) rfl)) rfl
theorem wc_X11_falsely : Cond.code yX11_falsely cX11_falsely 5 (some .int) ∈ lw_ok := wd_1196
theorem wi_X11_falsely : Cond.initialized yX11_falsely.cls ∈ lw_ok := wd_99
theorem wn_X11_falsely : notMH yX11_falsely := ⟨by decide, by decide⟩
theorem wp_X11_falsely : (parseMethodDescriptor yX11_falsely.desc).map (fun d => d.parameters.length) = some 1 := by decide +kernel
theorem wd_1194 : Cond.instanceMethod ({ cls := "UtilityBoard", name := "falsely", desc := "(I)I" } : MethodName) ∈ lw_ok := lw_ok_mem (tb_4 _ (List.mem_of_getElem? (i := 136) (by decide +kernel))) rfl
theorem wm_X11_falsely : Cond.instanceMethod yX11_falsely ∈ lw_ok := wd_1194
theorem wd_1195 : Cond.selects "UtilityBoard" ({ cls := "UtilityBoard", name := "falsely", desc := "(I)I" } : MethodName) ({ cls := "UtilityBoard", name := "falsely", desc := "(I)I" } : MethodName) ∈ lw_ok := lw_ok_mem (tb_4 _ (List.mem_of_getElem? (i := 137) (by decide +kernel))) rfl
theorem ws_X11_falsely : Cond.selects yX11_falsely.cls yX11_falsely yX11_falsely ∈ lw_ok := wd_1195
theorem wd_1193 : Cond.methodLink "UtilityBoardLaw" (136 : Nat) ({ cls := "UtilityBoard", name := "falsely", desc := "(I)I" } : MethodName) ∈ lw_ok := lw_ok_mem (tb_4 _ (List.mem_of_getElem? (i := 135) (by decide +kernel))) rfl
theorem cv__law_136 : CVW "UtilityBoardLaw" 136 yX11_falsely.cls yX11_falsely cX11_falsely 5 (some .int) 1 := ⟨wd_1193, wm_X11_falsely, ws_X11_falsely, wi_X11_falsely, wc_X11_falsely, wn_X11_falsely, wp_X11_falsely⟩
theorem wd_1876 : Cond.code ({ cls := "UtilityBoardModel", name := "falsely", desc := "(I)I" } : MethodName) prog_14_method_79_code (7 : Nat) (Option.some .int) ∈ lw_ok := lw_ok_mem (tb_7 _ (List.mem_of_getElem? (i := 98) rfl)) rfl
theorem wc_X12_falsely : Cond.code yX12_falsely cX12_falsely 7 (some .int) ∈ lw_ok := wd_1876
theorem wi_X12_falsely : Cond.initialized yX12_falsely.cls ∈ lw_ok := wd_106
theorem wn_X12_falsely : notMH yX12_falsely := ⟨by decide, by decide⟩
theorem wp_X12_falsely : (parseMethodDescriptor yX12_falsely.desc).map (fun d => d.parameters.length) = some 1 := by decide +kernel
theorem wd_1874 : Cond.instanceMethod ({ cls := "UtilityBoardModel", name := "falsely", desc := "(I)I" } : MethodName) ∈ lw_ok := lw_ok_mem (tb_7 _ (List.mem_of_getElem? (i := 96) (by decide +kernel))) rfl
theorem wm_X12_falsely : Cond.instanceMethod yX12_falsely ∈ lw_ok := wd_1874
theorem wd_1875 : Cond.selects "UtilityBoardModel" ({ cls := "UtilityBoardModel", name := "falsely", desc := "(I)I" } : MethodName) ({ cls := "UtilityBoardModel", name := "falsely", desc := "(I)I" } : MethodName) ∈ lw_ok := lw_ok_mem (tb_7 _ (List.mem_of_getElem? (i := 97) (by decide +kernel))) rfl
theorem ws_X12_falsely : Cond.selects yX12_falsely.cls yX12_falsely yX12_falsely ∈ lw_ok := wd_1875
theorem wd_1873 : Cond.methodLink "UtilityBoardLaw" (139 : Nat) ({ cls := "UtilityBoardModel", name := "falsely", desc := "(I)I" } : MethodName) ∈ lw_ok := lw_ok_mem (tb_7 _ (List.mem_of_getElem? (i := 95) (by decide +kernel))) rfl
theorem cv__law_139 : CVW "UtilityBoardLaw" 139 yX12_falsely.cls yX12_falsely cX12_falsely 7 (some .int) 1 := ⟨wd_1873, wm_X12_falsely, ws_X12_falsely, wi_X12_falsely, wc_X12_falsely, wn_X12_falsely, wp_X12_falsely⟩
theorem wd_1204 : Cond.code ({ cls := "UtilityBoard", name := "rubbed", desc := "(IIZ)Z" } : MethodName) prog_1_method_31_code (4 : Nat) (Option.some .boolean) ∈ lw_ok := lw_ok_mem (tb_4 _ (List.mem_of_getElem? (i := 146) rfl)) rfl
theorem wc_X11_rubbed : Cond.code yX11_rubbed cX11_rubbed 4 (some .boolean) ∈ lw_ok := wd_1204
theorem wi_X11_rubbed : Cond.initialized yX11_rubbed.cls ∈ lw_ok := wd_99
theorem wn_X11_rubbed : notMH yX11_rubbed := ⟨by decide, by decide⟩
theorem wp_X11_rubbed : (parseMethodDescriptor yX11_rubbed.desc).map (fun d => d.parameters.length) = some 3 := by decide +kernel
theorem wd_1202 : Cond.instanceMethod ({ cls := "UtilityBoard", name := "rubbed", desc := "(IIZ)Z" } : MethodName) ∈ lw_ok := lw_ok_mem (tb_4 _ (List.mem_of_getElem? (i := 144) (by decide +kernel))) rfl
theorem wm_X11_rubbed : Cond.instanceMethod yX11_rubbed ∈ lw_ok := wd_1202
theorem wd_1203 : Cond.selects "UtilityBoard" ({ cls := "UtilityBoard", name := "rubbed", desc := "(IIZ)Z" } : MethodName) ({ cls := "UtilityBoard", name := "rubbed", desc := "(IIZ)Z" } : MethodName) ∈ lw_ok := lw_ok_mem (tb_4 _ (List.mem_of_getElem? (i := 145) (by decide +kernel))) rfl
theorem ws_X11_rubbed : Cond.selects yX11_rubbed.cls yX11_rubbed yX11_rubbed ∈ lw_ok := wd_1203
theorem wd_1201 : Cond.methodLink "UtilityBoardLaw" (140 : Nat) ({ cls := "UtilityBoard", name := "rubbed", desc := "(IIZ)Z" } : MethodName) ∈ lw_ok := lw_ok_mem (tb_4 _ (List.mem_of_getElem? (i := 143) (by decide +kernel))) rfl
theorem cv__law_140 : CVW "UtilityBoardLaw" 140 yX11_rubbed.cls yX11_rubbed cX11_rubbed 4 (some .boolean) 3 := ⟨wd_1201, wm_X11_rubbed, ws_X11_rubbed, wi_X11_rubbed, wc_X11_rubbed, wn_X11_rubbed, wp_X11_rubbed⟩
theorem wd_1880 : Cond.code ({ cls := "UtilityBoardModel", name := "rubbed", desc := "(IIZ)Z" } : MethodName) prog_14_method_80_code (4 : Nat) (Option.some .boolean) ∈ lw_ok := lw_ok_mem (tb_7 _ (List.mem_of_getElem? (i := 102) rfl)) rfl
theorem wc_X12_rubbed : Cond.code yX12_rubbed cX12_rubbed 4 (some .boolean) ∈ lw_ok := wd_1880
theorem wi_X12_rubbed : Cond.initialized yX12_rubbed.cls ∈ lw_ok := wd_106
theorem wn_X12_rubbed : notMH yX12_rubbed := ⟨by decide, by decide⟩
theorem wp_X12_rubbed : (parseMethodDescriptor yX12_rubbed.desc).map (fun d => d.parameters.length) = some 3 := by decide +kernel
theorem wd_1878 : Cond.instanceMethod ({ cls := "UtilityBoardModel", name := "rubbed", desc := "(IIZ)Z" } : MethodName) ∈ lw_ok := lw_ok_mem (tb_7 _ (List.mem_of_getElem? (i := 100) (by decide +kernel))) rfl
theorem wm_X12_rubbed : Cond.instanceMethod yX12_rubbed ∈ lw_ok := wd_1878
theorem wd_1879 : Cond.selects "UtilityBoardModel" ({ cls := "UtilityBoardModel", name := "rubbed", desc := "(IIZ)Z" } : MethodName) ({ cls := "UtilityBoardModel", name := "rubbed", desc := "(IIZ)Z" } : MethodName) ∈ lw_ok := lw_ok_mem (tb_7 _ (List.mem_of_getElem? (i := 101) (by decide +kernel))) rfl
theorem ws_X12_rubbed : Cond.selects yX12_rubbed.cls yX12_rubbed yX12_rubbed ∈ lw_ok := wd_1879
theorem wd_1877 : Cond.methodLink "UtilityBoardLaw" (144 : Nat) ({ cls := "UtilityBoardModel", name := "rubbed", desc := "(IIZ)Z" } : MethodName) ∈ lw_ok := lw_ok_mem (tb_7 _ (List.mem_of_getElem? (i := 99) (by decide +kernel))) rfl
theorem cv__law_144 : CVW "UtilityBoardLaw" 144 yX12_rubbed.cls yX12_rubbed cX12_rubbed 4 (some .boolean) 3 := ⟨wd_1877, wm_X12_rubbed, ws_X12_rubbed, wi_X12_rubbed, wc_X12_rubbed, wn_X12_rubbed, wp_X12_rubbed⟩
theorem wd_1208 : Cond.code ({ cls := "UtilityBoard", name := "bench", desc := "(I)Z" } : MethodName) prog_1_method_32_code (2 : Nat) (Option.some .boolean) ∈ lw_ok := lw_ok_mem (tb_4 _ (List.mem_of_getElem? (i := 150) rfl)) rfl
theorem wc_X11_bench : Cond.code yX11_bench cX11_bench 2 (some .boolean) ∈ lw_ok := wd_1208
theorem wi_X11_bench : Cond.initialized yX11_bench.cls ∈ lw_ok := wd_99
theorem wn_X11_bench : notMH yX11_bench := ⟨by decide, by decide⟩
theorem wp_X11_bench : (parseMethodDescriptor yX11_bench.desc).map (fun d => d.parameters.length) = some 1 := by decide +kernel
theorem wd_1206 : Cond.instanceMethod ({ cls := "UtilityBoard", name := "bench", desc := "(I)Z" } : MethodName) ∈ lw_ok := lw_ok_mem (tb_4 _ (List.mem_of_getElem? (i := 148) (by decide +kernel))) rfl
theorem wm_X11_bench : Cond.instanceMethod yX11_bench ∈ lw_ok := wd_1206
theorem wd_1207 : Cond.selects "UtilityBoard" ({ cls := "UtilityBoard", name := "bench", desc := "(I)Z" } : MethodName) ({ cls := "UtilityBoard", name := "bench", desc := "(I)Z" } : MethodName) ∈ lw_ok := lw_ok_mem (tb_4 _ (List.mem_of_getElem? (i := 149) (by decide +kernel))) rfl
theorem ws_X11_bench : Cond.selects yX11_bench.cls yX11_bench yX11_bench ∈ lw_ok := wd_1207
theorem wd_1205 : Cond.methodLink "UtilityBoardLaw" (145 : Nat) ({ cls := "UtilityBoard", name := "bench", desc := "(I)Z" } : MethodName) ∈ lw_ok := lw_ok_mem (tb_4 _ (List.mem_of_getElem? (i := 147) (by decide +kernel))) rfl
theorem cv__law_145 : CVW "UtilityBoardLaw" 145 yX11_bench.cls yX11_bench cX11_bench 2 (some .boolean) 1 := ⟨wd_1205, wm_X11_bench, ws_X11_bench, wi_X11_bench, wc_X11_bench, wn_X11_bench, wp_X11_bench⟩
theorem wd_1884 : Cond.code ({ cls := "UtilityBoardModel", name := "bench", desc := "(I)Z" } : MethodName) prog_14_method_81_code (2 : Nat) (Option.some .boolean) ∈ lw_ok := lw_ok_mem (tb_7 _ (List.mem_of_getElem? (i := 106) rfl)) rfl
theorem wc_X12_bench : Cond.code yX12_bench cX12_bench 2 (some .boolean) ∈ lw_ok := wd_1884
theorem wi_X12_bench : Cond.initialized yX12_bench.cls ∈ lw_ok := wd_106
theorem wn_X12_bench : notMH yX12_bench := ⟨by decide, by decide⟩
theorem wp_X12_bench : (parseMethodDescriptor yX12_bench.desc).map (fun d => d.parameters.length) = some 1 := by decide +kernel
theorem wd_1882 : Cond.instanceMethod ({ cls := "UtilityBoardModel", name := "bench", desc := "(I)Z" } : MethodName) ∈ lw_ok := lw_ok_mem (tb_7 _ (List.mem_of_getElem? (i := 104) (by decide +kernel))) rfl
theorem wm_X12_bench : Cond.instanceMethod yX12_bench ∈ lw_ok := wd_1882
theorem wd_1883 : Cond.selects "UtilityBoardModel" ({ cls := "UtilityBoardModel", name := "bench", desc := "(I)Z" } : MethodName) ({ cls := "UtilityBoardModel", name := "bench", desc := "(I)Z" } : MethodName) ∈ lw_ok := lw_ok_mem (tb_7 _ (List.mem_of_getElem? (i := 105) (by decide +kernel))) rfl
theorem ws_X12_bench : Cond.selects yX12_bench.cls yX12_bench yX12_bench ∈ lw_ok := wd_1883
theorem wd_1881 : Cond.methodLink "UtilityBoardLaw" (149 : Nat) ({ cls := "UtilityBoardModel", name := "bench", desc := "(I)Z" } : MethodName) ∈ lw_ok := lw_ok_mem (tb_7 _ (List.mem_of_getElem? (i := 103) (by decide +kernel))) rfl
theorem cv__law_149 : CVW "UtilityBoardLaw" 149 yX12_bench.cls yX12_bench cX12_bench 2 (some .boolean) 1 := ⟨wd_1881, wm_X12_bench, ws_X12_bench, wi_X12_bench, wc_X12_bench, wn_X12_bench, wp_X12_bench⟩
theorem wd_1212 : Cond.code ({ cls := "UtilityBoard", name := "isTrue", desc := "(II)I" } : MethodName) prog_1_method_33_code (10 : Nat) (Option.some .int) ∈ lw_ok := lw_ok_mem (tb_4 _ (List.mem_of_getElem? (i := 154) rfl)) rfl
theorem wc_X11_isTrue : Cond.code yX11_isTrue cX11_isTrue 10 (some .int) ∈ lw_ok := wd_1212
theorem wi_X11_isTrue : Cond.initialized yX11_isTrue.cls ∈ lw_ok := wd_99
theorem wn_X11_isTrue : notMH yX11_isTrue := ⟨by decide, by decide⟩
theorem wp_X11_isTrue : (parseMethodDescriptor yX11_isTrue.desc).map (fun d => d.parameters.length) = some 2 := by decide +kernel
theorem wd_1210 : Cond.instanceMethod ({ cls := "UtilityBoard", name := "isTrue", desc := "(II)I" } : MethodName) ∈ lw_ok := lw_ok_mem (tb_4 _ (List.mem_of_getElem? (i := 152) (by decide +kernel))) rfl
theorem wm_X11_isTrue : Cond.instanceMethod yX11_isTrue ∈ lw_ok := wd_1210
theorem wd_1211 : Cond.selects "UtilityBoard" ({ cls := "UtilityBoard", name := "isTrue", desc := "(II)I" } : MethodName) ({ cls := "UtilityBoard", name := "isTrue", desc := "(II)I" } : MethodName) ∈ lw_ok := lw_ok_mem (tb_4 _ (List.mem_of_getElem? (i := 153) (by decide +kernel))) rfl
theorem ws_X11_isTrue : Cond.selects yX11_isTrue.cls yX11_isTrue yX11_isTrue ∈ lw_ok := wd_1211
theorem wd_1209 : Cond.methodLink "UtilityBoardLaw" (150 : Nat) ({ cls := "UtilityBoard", name := "isTrue", desc := "(II)I" } : MethodName) ∈ lw_ok := lw_ok_mem (tb_4 _ (List.mem_of_getElem? (i := 151) (by decide +kernel))) rfl
theorem cv__law_150 : CVW "UtilityBoardLaw" 150 yX11_isTrue.cls yX11_isTrue cX11_isTrue 10 (some .int) 2 := ⟨wd_1209, wm_X11_isTrue, ws_X11_isTrue, wi_X11_isTrue, wc_X11_isTrue, wn_X11_isTrue, wp_X11_isTrue⟩
theorem wd_1888 : Cond.code ({ cls := "UtilityBoardModel", name := "isTrue", desc := "(II)I" } : MethodName) prog_14_method_82_code (8 : Nat) (Option.some .int) ∈ lw_ok := lw_ok_mem (tb_7 _ (List.mem_of_getElem? (i := 110) rfl)) rfl
theorem wc_X12_isTrue : Cond.code yX12_isTrue cX12_isTrue 8 (some .int) ∈ lw_ok := wd_1888
theorem wi_X12_isTrue : Cond.initialized yX12_isTrue.cls ∈ lw_ok := wd_106
theorem wn_X12_isTrue : notMH yX12_isTrue := ⟨by decide, by decide⟩
theorem wp_X12_isTrue : (parseMethodDescriptor yX12_isTrue.desc).map (fun d => d.parameters.length) = some 2 := by decide +kernel
theorem wd_1886 : Cond.instanceMethod ({ cls := "UtilityBoardModel", name := "isTrue", desc := "(II)I" } : MethodName) ∈ lw_ok := lw_ok_mem (tb_7 _ (List.mem_of_getElem? (i := 108) (by decide +kernel))) rfl
theorem wm_X12_isTrue : Cond.instanceMethod yX12_isTrue ∈ lw_ok := wd_1886
theorem wd_1887 : Cond.selects "UtilityBoardModel" ({ cls := "UtilityBoardModel", name := "isTrue", desc := "(II)I" } : MethodName) ({ cls := "UtilityBoardModel", name := "isTrue", desc := "(II)I" } : MethodName) ∈ lw_ok := lw_ok_mem (tb_7 _ (List.mem_of_getElem? (i := 109) (by decide +kernel))) rfl
theorem ws_X12_isTrue : Cond.selects yX12_isTrue.cls yX12_isTrue yX12_isTrue ∈ lw_ok := wd_1887
theorem wd_1885 : Cond.methodLink "UtilityBoardLaw" (153 : Nat) ({ cls := "UtilityBoardModel", name := "isTrue", desc := "(II)I" } : MethodName) ∈ lw_ok := lw_ok_mem (tb_7 _ (List.mem_of_getElem? (i := 107) (by decide +kernel))) rfl
theorem cv__law_153 : CVW "UtilityBoardLaw" 153 yX12_isTrue.cls yX12_isTrue cX12_isTrue 8 (some .int) 2 := ⟨wd_1885, wm_X12_isTrue, ws_X12_isTrue, wi_X12_isTrue, wc_X12_isTrue, wn_X12_isTrue, wp_X12_isTrue⟩
theorem wd_1216 : Cond.code ({ cls := "UtilityBoard", name := "needs", desc := "(III)I" } : MethodName) prog_1_method_34_code (4 : Nat) (Option.some .int) ∈ lw_ok := lw_ok_mem (tb_4 _ (List.mem_of_getElem? (i := 158) rfl)) rfl
theorem wc_X11_needs : Cond.code yX11_needs cX11_needs 4 (some .int) ∈ lw_ok := wd_1216
theorem wi_X11_needs : Cond.initialized yX11_needs.cls ∈ lw_ok := wd_99
theorem wn_X11_needs : notMH yX11_needs := ⟨by decide, by decide⟩
theorem wp_X11_needs : (parseMethodDescriptor yX11_needs.desc).map (fun d => d.parameters.length) = some 3 := by decide +kernel
theorem wd_1214 : Cond.instanceMethod ({ cls := "UtilityBoard", name := "needs", desc := "(III)I" } : MethodName) ∈ lw_ok := lw_ok_mem (tb_4 _ (List.mem_of_getElem? (i := 156) (by decide +kernel))) rfl
theorem wm_X11_needs : Cond.instanceMethod yX11_needs ∈ lw_ok := wd_1214
theorem wd_1215 : Cond.selects "UtilityBoard" ({ cls := "UtilityBoard", name := "needs", desc := "(III)I" } : MethodName) ({ cls := "UtilityBoard", name := "needs", desc := "(III)I" } : MethodName) ∈ lw_ok := lw_ok_mem (tb_4 _ (List.mem_of_getElem? (i := 157) (by decide +kernel))) rfl
theorem ws_X11_needs : Cond.selects yX11_needs.cls yX11_needs yX11_needs ∈ lw_ok := wd_1215
theorem wd_1213 : Cond.methodLink "UtilityBoardLaw" (154 : Nat) ({ cls := "UtilityBoard", name := "needs", desc := "(III)I" } : MethodName) ∈ lw_ok := lw_ok_mem (tb_4 _ (List.mem_of_getElem? (i := 155) (by decide +kernel))) rfl
theorem cv__law_154 : CVW "UtilityBoardLaw" 154 yX11_needs.cls yX11_needs cX11_needs 4 (some .int) 3 := ⟨wd_1213, wm_X11_needs, ws_X11_needs, wi_X11_needs, wc_X11_needs, wn_X11_needs, wp_X11_needs⟩
theorem wd_1892 : Cond.code ({ cls := "UtilityBoardModel", name := "needs", desc := "(III)I" } : MethodName) prog_14_method_86_code (5 : Nat) (Option.some .int) ∈ lw_ok := lw_ok_mem (tb_7 _ (List.mem_of_getElem? (i := 114) rfl)) rfl
theorem wc_X12_needs : Cond.code yX12_needs cX12_needs 5 (some .int) ∈ lw_ok := wd_1892
theorem wi_X12_needs : Cond.initialized yX12_needs.cls ∈ lw_ok := wd_106
theorem wn_X12_needs : notMH yX12_needs := ⟨by decide, by decide⟩
theorem wp_X12_needs : (parseMethodDescriptor yX12_needs.desc).map (fun d => d.parameters.length) = some 3 := by decide +kernel
theorem wd_1890 : Cond.instanceMethod ({ cls := "UtilityBoardModel", name := "needs", desc := "(III)I" } : MethodName) ∈ lw_ok := lw_ok_mem (tb_7 _ (List.mem_of_getElem? (i := 112) (by decide +kernel))) rfl
theorem wm_X12_needs : Cond.instanceMethod yX12_needs ∈ lw_ok := wd_1890
theorem wd_1891 : Cond.selects "UtilityBoardModel" ({ cls := "UtilityBoardModel", name := "needs", desc := "(III)I" } : MethodName) ({ cls := "UtilityBoardModel", name := "needs", desc := "(III)I" } : MethodName) ∈ lw_ok := lw_ok_mem (tb_7 _ (List.mem_of_getElem? (i := 113) (by decide +kernel))) rfl
theorem ws_X12_needs : Cond.selects yX12_needs.cls yX12_needs yX12_needs ∈ lw_ok := wd_1891
theorem wd_1889 : Cond.methodLink "UtilityBoardLaw" (157 : Nat) ({ cls := "UtilityBoardModel", name := "needs", desc := "(III)I" } : MethodName) ∈ lw_ok := lw_ok_mem (tb_7 _ (List.mem_of_getElem? (i := 111) (by decide +kernel))) rfl
theorem cv__law_157 : CVW "UtilityBoardLaw" 157 yX12_needs.cls yX12_needs cX12_needs 5 (some .int) 3 := ⟨wd_1889, wm_X12_needs, ws_X12_needs, wi_X12_needs, wc_X12_needs, wn_X12_needs, wp_X12_needs⟩
theorem wd_1229 : Cond.code ({ cls := "UtilityBoard", name := "fewest", desc := "(III)I" } : MethodName) prog_1_method_35_code (8 : Nat) (Option.some .int) ∈ lw_ok := lw_ok_mem (tb_4 _ (List.mem_of_getElem? (i := 171) rfl)) rfl
theorem wc_X11_fewest : Cond.code yX11_fewest cX11_fewest 8 (some .int) ∈ lw_ok := wd_1229
theorem wi_X11_fewest : Cond.initialized yX11_fewest.cls ∈ lw_ok := wd_99
theorem wn_X11_fewest : notMH yX11_fewest := ⟨by decide, by decide⟩
theorem wp_X11_fewest : (parseMethodDescriptor yX11_fewest.desc).map (fun d => d.parameters.length) = some 3 := by decide +kernel
theorem wd_1227 : Cond.instanceMethod ({ cls := "UtilityBoard", name := "fewest", desc := "(III)I" } : MethodName) ∈ lw_ok := lw_ok_mem (tb_4 _ (List.mem_of_getElem? (i := 169) (by decide +kernel))) rfl
theorem wm_X11_fewest : Cond.instanceMethod yX11_fewest ∈ lw_ok := wd_1227
theorem wd_1228 : Cond.selects "UtilityBoard" ({ cls := "UtilityBoard", name := "fewest", desc := "(III)I" } : MethodName) ({ cls := "UtilityBoard", name := "fewest", desc := "(III)I" } : MethodName) ∈ lw_ok := lw_ok_mem (tb_4 _ (List.mem_of_getElem? (i := 170) (by decide +kernel))) rfl
theorem ws_X11_fewest : Cond.selects yX11_fewest.cls yX11_fewest yX11_fewest ∈ lw_ok := wd_1228
theorem wd_1226 : Cond.methodLink "UtilityBoardLaw" (158 : Nat) ({ cls := "UtilityBoard", name := "fewest", desc := "(III)I" } : MethodName) ∈ lw_ok := lw_ok_mem (tb_4 _ (List.mem_of_getElem? (i := 168) (by decide +kernel))) rfl
theorem cv__law_158 : CVW "UtilityBoardLaw" 158 yX11_fewest.cls yX11_fewest cX11_fewest 8 (some .int) 3 := ⟨wd_1226, wm_X11_fewest, ws_X11_fewest, wi_X11_fewest, wc_X11_fewest, wn_X11_fewest, wp_X11_fewest⟩
theorem wd_1907 : Cond.code ({ cls := "UtilityBoardModel", name := "fewest", desc := "(III)I" } : MethodName) prog_14_method_88_code (8 : Nat) (Option.some .int) ∈ lw_ok := lw_ok_mem (tb_7 _ (List.mem_of_getElem? (i := 129) rfl)) rfl
theorem wc_X12_fewest : Cond.code yX12_fewest cX12_fewest 8 (some .int) ∈ lw_ok := wd_1907
theorem wi_X12_fewest : Cond.initialized yX12_fewest.cls ∈ lw_ok := wd_106
theorem wn_X12_fewest : notMH yX12_fewest := ⟨by decide, by decide⟩
theorem wp_X12_fewest : (parseMethodDescriptor yX12_fewest.desc).map (fun d => d.parameters.length) = some 3 := by decide +kernel
theorem wd_1905 : Cond.instanceMethod ({ cls := "UtilityBoardModel", name := "fewest", desc := "(III)I" } : MethodName) ∈ lw_ok := lw_ok_mem (tb_7 _ (List.mem_of_getElem? (i := 127) (by decide +kernel))) rfl
theorem wm_X12_fewest : Cond.instanceMethod yX12_fewest ∈ lw_ok := wd_1905
theorem wd_1906 : Cond.selects "UtilityBoardModel" ({ cls := "UtilityBoardModel", name := "fewest", desc := "(III)I" } : MethodName) ({ cls := "UtilityBoardModel", name := "fewest", desc := "(III)I" } : MethodName) ∈ lw_ok := lw_ok_mem (tb_7 _ (List.mem_of_getElem? (i := 128) (by decide +kernel))) rfl
theorem ws_X12_fewest : Cond.selects yX12_fewest.cls yX12_fewest yX12_fewest ∈ lw_ok := wd_1906
theorem wd_1904 : Cond.methodLink "UtilityBoardLaw" (161 : Nat) ({ cls := "UtilityBoardModel", name := "fewest", desc := "(III)I" } : MethodName) ∈ lw_ok := lw_ok_mem (tb_7 _ (List.mem_of_getElem? (i := 126) (by decide +kernel))) rfl
theorem cv__law_161 : CVW "UtilityBoardLaw" 161 yX12_fewest.cls yX12_fewest cX12_fewest 8 (some .int) 3 := ⟨wd_1904, wm_X12_fewest, ws_X12_fewest, wi_X12_fewest, wc_X12_fewest, wn_X12_fewest, wp_X12_fewest⟩
theorem wd_1237 : Cond.code ({ cls := "UtilityBoard", name := "loses", desc := "(II)I" } : MethodName) prog_1_method_36_code (7 : Nat) (Option.some .int) ∈ lw_ok := lw_ok_mem (tb_4 _ (List.mem_of_getElem? (i := 179) rfl)) rfl
theorem wc_X11_loses : Cond.code yX11_loses cX11_loses 7 (some .int) ∈ lw_ok := wd_1237
theorem wi_X11_loses : Cond.initialized yX11_loses.cls ∈ lw_ok := wd_99
theorem wn_X11_loses : notMH yX11_loses := ⟨by decide, by decide⟩
theorem wp_X11_loses : (parseMethodDescriptor yX11_loses.desc).map (fun d => d.parameters.length) = some 2 := by decide +kernel
theorem wd_1235 : Cond.instanceMethod ({ cls := "UtilityBoard", name := "loses", desc := "(II)I" } : MethodName) ∈ lw_ok := lw_ok_mem (tb_4 _ (List.mem_of_getElem? (i := 177) (by decide +kernel))) rfl
theorem wm_X11_loses : Cond.instanceMethod yX11_loses ∈ lw_ok := wd_1235
theorem wd_1236 : Cond.selects "UtilityBoard" ({ cls := "UtilityBoard", name := "loses", desc := "(II)I" } : MethodName) ({ cls := "UtilityBoard", name := "loses", desc := "(II)I" } : MethodName) ∈ lw_ok := lw_ok_mem (tb_4 _ (List.mem_of_getElem? (i := 178) (by decide +kernel))) rfl
theorem ws_X11_loses : Cond.selects yX11_loses.cls yX11_loses yX11_loses ∈ lw_ok := wd_1236
theorem wd_1234 : Cond.methodLink "UtilityBoardLaw" (162 : Nat) ({ cls := "UtilityBoard", name := "loses", desc := "(II)I" } : MethodName) ∈ lw_ok := lw_ok_mem (tb_4 _ (List.mem_of_getElem? (i := 176) (by decide +kernel))) rfl
theorem cv__law_162 : CVW "UtilityBoardLaw" 162 yX11_loses.cls yX11_loses cX11_loses 7 (some .int) 2 := ⟨wd_1234, wm_X11_loses, ws_X11_loses, wi_X11_loses, wc_X11_loses, wn_X11_loses, wp_X11_loses⟩
theorem wd_1915 : Cond.code ({ cls := "UtilityBoardModel", name := "loses", desc := "(II)I" } : MethodName) prog_14_method_89_code (6 : Nat) (Option.some .int) ∈ lw_ok := lw_ok_mem (tb_7 _ (List.mem_of_getElem? (i := 137) rfl)) rfl
theorem wc_X12_loses : Cond.code yX12_loses cX12_loses 6 (some .int) ∈ lw_ok := wd_1915
theorem wi_X12_loses : Cond.initialized yX12_loses.cls ∈ lw_ok := wd_106
theorem wn_X12_loses : notMH yX12_loses := ⟨by decide, by decide⟩
theorem wp_X12_loses : (parseMethodDescriptor yX12_loses.desc).map (fun d => d.parameters.length) = some 2 := by decide +kernel
theorem wd_1913 : Cond.instanceMethod ({ cls := "UtilityBoardModel", name := "loses", desc := "(II)I" } : MethodName) ∈ lw_ok := lw_ok_mem (tb_7 _ (List.mem_of_getElem? (i := 135) (by decide +kernel))) rfl
theorem wm_X12_loses : Cond.instanceMethod yX12_loses ∈ lw_ok := wd_1913
theorem wd_1914 : Cond.selects "UtilityBoardModel" ({ cls := "UtilityBoardModel", name := "loses", desc := "(II)I" } : MethodName) ({ cls := "UtilityBoardModel", name := "loses", desc := "(II)I" } : MethodName) ∈ lw_ok := lw_ok_mem (tb_7 _ (List.mem_of_getElem? (i := 136) (by decide +kernel))) rfl
theorem ws_X12_loses : Cond.selects yX12_loses.cls yX12_loses yX12_loses ∈ lw_ok := wd_1914
theorem wd_1912 : Cond.methodLink "UtilityBoardLaw" (165 : Nat) ({ cls := "UtilityBoardModel", name := "loses", desc := "(II)I" } : MethodName) ∈ lw_ok := lw_ok_mem (tb_7 _ (List.mem_of_getElem? (i := 134) (by decide +kernel))) rfl
theorem cv__law_165 : CVW "UtilityBoardLaw" 165 yX12_loses.cls yX12_loses cX12_loses 6 (some .int) 2 := ⟨wd_1912, wm_X12_loses, ws_X12_loses, wi_X12_loses, wc_X12_loses, wn_X12_loses, wp_X12_loses⟩
theorem wd_1247 : Cond.code ({ cls := "UtilityBoard", name := "beside", desc := "(I)I" } : MethodName) prog_1_method_37_code (4 : Nat) (Option.some .int) ∈ lw_ok := lw_ok_mem (tb_4 _ (List.mem_of_getElem? (i := 189) rfl)) rfl
theorem wc_X11_beside : Cond.code yX11_beside cX11_beside 4 (some .int) ∈ lw_ok := wd_1247
theorem wi_X11_beside : Cond.initialized yX11_beside.cls ∈ lw_ok := wd_99
theorem wn_X11_beside : notMH yX11_beside := ⟨by decide, by decide⟩
theorem wp_X11_beside : (parseMethodDescriptor yX11_beside.desc).map (fun d => d.parameters.length) = some 1 := by decide +kernel
theorem wd_1245 : Cond.instanceMethod ({ cls := "UtilityBoard", name := "beside", desc := "(I)I" } : MethodName) ∈ lw_ok := lw_ok_mem (tb_4 _ (List.mem_of_getElem? (i := 187) (by decide +kernel))) rfl
theorem wm_X11_beside : Cond.instanceMethod yX11_beside ∈ lw_ok := wd_1245
theorem wd_1246 : Cond.selects "UtilityBoard" ({ cls := "UtilityBoard", name := "beside", desc := "(I)I" } : MethodName) ({ cls := "UtilityBoard", name := "beside", desc := "(I)I" } : MethodName) ∈ lw_ok := lw_ok_mem (tb_4 _ (List.mem_of_getElem? (i := 188) (by decide +kernel))) rfl
theorem ws_X11_beside : Cond.selects yX11_beside.cls yX11_beside yX11_beside ∈ lw_ok := wd_1246
theorem wd_1244 : Cond.methodLink "UtilityBoardLaw" (166 : Nat) ({ cls := "UtilityBoard", name := "beside", desc := "(I)I" } : MethodName) ∈ lw_ok := lw_ok_mem (tb_4 _ (List.mem_of_getElem? (i := 186) (by decide +kernel))) rfl
theorem cv__law_166 : CVW "UtilityBoardLaw" 166 yX11_beside.cls yX11_beside cX11_beside 4 (some .int) 1 := ⟨wd_1244, wm_X11_beside, ws_X11_beside, wi_X11_beside, wc_X11_beside, wn_X11_beside, wp_X11_beside⟩
theorem wd_1920 : Cond.code ({ cls := "UtilityBoardModel", name := "beside", desc := "(I)I" } : MethodName) prog_14_method_90_code (6 : Nat) (Option.some .int) ∈ lw_ok := lw_ok_mem (tb_7 _ (List.mem_of_getElem? (i := 142) rfl)) rfl
theorem wc_X12_beside : Cond.code yX12_beside cX12_beside 6 (some .int) ∈ lw_ok := wd_1920
theorem wi_X12_beside : Cond.initialized yX12_beside.cls ∈ lw_ok := wd_106
theorem wn_X12_beside : notMH yX12_beside := ⟨by decide, by decide⟩
theorem wp_X12_beside : (parseMethodDescriptor yX12_beside.desc).map (fun d => d.parameters.length) = some 1 := by decide +kernel
theorem wd_1918 : Cond.instanceMethod ({ cls := "UtilityBoardModel", name := "beside", desc := "(I)I" } : MethodName) ∈ lw_ok := lw_ok_mem (tb_7 _ (List.mem_of_getElem? (i := 140) (by decide +kernel))) rfl
theorem wm_X12_beside : Cond.instanceMethod yX12_beside ∈ lw_ok := wd_1918
theorem wd_1919 : Cond.selects "UtilityBoardModel" ({ cls := "UtilityBoardModel", name := "beside", desc := "(I)I" } : MethodName) ({ cls := "UtilityBoardModel", name := "beside", desc := "(I)I" } : MethodName) ∈ lw_ok := lw_ok_mem (tb_7 _ (List.mem_of_getElem? (i := 141) (by decide +kernel))) rfl
theorem ws_X12_beside : Cond.selects yX12_beside.cls yX12_beside yX12_beside ∈ lw_ok := wd_1919
theorem wd_1917 : Cond.methodLink "UtilityBoardLaw" (169 : Nat) ({ cls := "UtilityBoardModel", name := "beside", desc := "(I)I" } : MethodName) ∈ lw_ok := lw_ok_mem (tb_7 _ (List.mem_of_getElem? (i := 139) (by decide +kernel))) rfl
theorem cv__law_169 : CVW "UtilityBoardLaw" 169 yX12_beside.cls yX12_beside cX12_beside 6 (some .int) 1 := ⟨wd_1917, wm_X12_beside, ws_X12_beside, wi_X12_beside, wc_X12_beside, wn_X12_beside, wp_X12_beside⟩
theorem wd_1255 : Cond.code ({ cls := "UtilityBoard", name := "check", desc := "(I)I" } : MethodName) prog_1_method_38_code (2 : Nat) (Option.some .int) ∈ lw_ok := lw_ok_mem (tb_4 _ (List.mem_of_getElem? (i := 197) rfl)) rfl
theorem wc_X11_check : Cond.code yX11_check cX11_check 2 (some .int) ∈ lw_ok := wd_1255
theorem wi_X11_check : Cond.initialized yX11_check.cls ∈ lw_ok := wd_99
theorem wn_X11_check : notMH yX11_check := ⟨by decide, by decide⟩
theorem wp_X11_check : (parseMethodDescriptor yX11_check.desc).map (fun d => d.parameters.length) = some 1 := by decide +kernel
theorem wd_1253 : Cond.instanceMethod ({ cls := "UtilityBoard", name := "check", desc := "(I)I" } : MethodName) ∈ lw_ok := lw_ok_mem (tb_4 _ (List.mem_of_getElem? (i := 195) (by decide +kernel))) rfl
theorem wm_X11_check : Cond.instanceMethod yX11_check ∈ lw_ok := wd_1253
theorem wd_1254 : Cond.selects "UtilityBoard" ({ cls := "UtilityBoard", name := "check", desc := "(I)I" } : MethodName) ({ cls := "UtilityBoard", name := "check", desc := "(I)I" } : MethodName) ∈ lw_ok := lw_ok_mem (tb_4 _ (List.mem_of_getElem? (i := 196) (by decide +kernel))) rfl
theorem ws_X11_check : Cond.selects yX11_check.cls yX11_check yX11_check ∈ lw_ok := wd_1254
theorem wd_1252 : Cond.methodLink "UtilityBoardLaw" (170 : Nat) ({ cls := "UtilityBoard", name := "check", desc := "(I)I" } : MethodName) ∈ lw_ok := lw_ok_mem (tb_4 _ (List.mem_of_getElem? (i := 194) (by decide +kernel))) rfl
theorem cv__law_170 : CVW "UtilityBoardLaw" 170 yX11_check.cls yX11_check cX11_check 2 (some .int) 1 := ⟨wd_1252, wm_X11_check, ws_X11_check, wi_X11_check, wc_X11_check, wn_X11_check, wp_X11_check⟩
theorem wd_1924 : Cond.code ({ cls := "UtilityBoardModel", name := "check", desc := "(I)I" } : MethodName) prog_14_method_92_code (6 : Nat) (Option.some .int) ∈ lw_ok := lw_ok_mem (tb_7 _ (List.mem_of_getElem? (i := 146) rfl)) rfl
theorem wc_X12_check : Cond.code yX12_check cX12_check 6 (some .int) ∈ lw_ok := wd_1924
theorem wi_X12_check : Cond.initialized yX12_check.cls ∈ lw_ok := wd_106
theorem wn_X12_check : notMH yX12_check := ⟨by decide, by decide⟩
theorem wp_X12_check : (parseMethodDescriptor yX12_check.desc).map (fun d => d.parameters.length) = some 1 := by decide +kernel
theorem wd_1922 : Cond.instanceMethod ({ cls := "UtilityBoardModel", name := "check", desc := "(I)I" } : MethodName) ∈ lw_ok := lw_ok_mem (tb_7 _ (List.mem_of_getElem? (i := 144) (by decide +kernel))) rfl
theorem wm_X12_check : Cond.instanceMethod yX12_check ∈ lw_ok := wd_1922
theorem wd_1923 : Cond.selects "UtilityBoardModel" ({ cls := "UtilityBoardModel", name := "check", desc := "(I)I" } : MethodName) ({ cls := "UtilityBoardModel", name := "check", desc := "(I)I" } : MethodName) ∈ lw_ok := lw_ok_mem (tb_7 _ (List.mem_of_getElem? (i := 145) (by decide +kernel))) rfl
theorem ws_X12_check : Cond.selects yX12_check.cls yX12_check yX12_check ∈ lw_ok := wd_1923
theorem wd_1921 : Cond.methodLink "UtilityBoardLaw" (173 : Nat) ({ cls := "UtilityBoardModel", name := "check", desc := "(I)I" } : MethodName) ∈ lw_ok := lw_ok_mem (tb_7 _ (List.mem_of_getElem? (i := 143) (by decide +kernel))) rfl
theorem cv__law_173 : CVW "UtilityBoardLaw" 173 yX12_check.cls yX12_check cX12_check 6 (some .int) 1 := ⟨wd_1921, wm_X12_check, ws_X12_check, wi_X12_check, wc_X12_check, wn_X12_check, wp_X12_check⟩
theorem wd_1267 : Cond.code ({ cls := "UtilityBoard", name := "look", desc := "(II)I" } : MethodName) prog_1_method_39_code (5 : Nat) (Option.some .int) ∈ lw_ok := lw_ok_mem (tb_4 _ (List.mem_of_getElem? (i := 209) rfl)) rfl
theorem wc_X11_look : Cond.code yX11_look cX11_look 5 (some .int) ∈ lw_ok := wd_1267
theorem wi_X11_look : Cond.initialized yX11_look.cls ∈ lw_ok := wd_99
theorem wn_X11_look : notMH yX11_look := ⟨by decide, by decide⟩
theorem wp_X11_look : (parseMethodDescriptor yX11_look.desc).map (fun d => d.parameters.length) = some 2 := by decide +kernel
theorem wd_1265 : Cond.instanceMethod ({ cls := "UtilityBoard", name := "look", desc := "(II)I" } : MethodName) ∈ lw_ok := lw_ok_mem (tb_4 _ (List.mem_of_getElem? (i := 207) (by decide +kernel))) rfl
theorem wm_X11_look : Cond.instanceMethod yX11_look ∈ lw_ok := wd_1265
theorem wd_1266 : Cond.selects "UtilityBoard" ({ cls := "UtilityBoard", name := "look", desc := "(II)I" } : MethodName) ({ cls := "UtilityBoard", name := "look", desc := "(II)I" } : MethodName) ∈ lw_ok := lw_ok_mem (tb_4 _ (List.mem_of_getElem? (i := 208) (by decide +kernel))) rfl
theorem ws_X11_look : Cond.selects yX11_look.cls yX11_look yX11_look ∈ lw_ok := wd_1266
theorem wd_1264 : Cond.methodLink "UtilityBoardLaw" (174 : Nat) ({ cls := "UtilityBoard", name := "look", desc := "(II)I" } : MethodName) ∈ lw_ok := lw_ok_mem (tb_4 _ (List.mem_of_getElem? (i := 206) (by decide +kernel))) rfl
theorem cv__law_174 : CVW "UtilityBoardLaw" 174 yX11_look.cls yX11_look cX11_look 5 (some .int) 2 := ⟨wd_1264, wm_X11_look, ws_X11_look, wi_X11_look, wc_X11_look, wn_X11_look, wp_X11_look⟩
theorem wd_1932 : Cond.code ({ cls := "UtilityBoardModel", name := "look", desc := "(II)I" } : MethodName) prog_14_method_93_code (4 : Nat) (Option.some .int) ∈ lw_ok := lw_ok_mem (tb_7 _ (List.mem_of_getElem? (i := 154) rfl)) rfl
theorem wc_X12_look : Cond.code yX12_look cX12_look 4 (some .int) ∈ lw_ok := wd_1932
theorem wi_X12_look : Cond.initialized yX12_look.cls ∈ lw_ok := wd_106
theorem wn_X12_look : notMH yX12_look := ⟨by decide, by decide⟩
theorem wp_X12_look : (parseMethodDescriptor yX12_look.desc).map (fun d => d.parameters.length) = some 2 := by decide +kernel
theorem wd_1930 : Cond.instanceMethod ({ cls := "UtilityBoardModel", name := "look", desc := "(II)I" } : MethodName) ∈ lw_ok := lw_ok_mem (tb_7 _ (List.mem_of_getElem? (i := 152) (by decide +kernel))) rfl
theorem wm_X12_look : Cond.instanceMethod yX12_look ∈ lw_ok := wd_1930
theorem wd_1931 : Cond.selects "UtilityBoardModel" ({ cls := "UtilityBoardModel", name := "look", desc := "(II)I" } : MethodName) ({ cls := "UtilityBoardModel", name := "look", desc := "(II)I" } : MethodName) ∈ lw_ok := lw_ok_mem (tb_7 _ (List.mem_of_getElem? (i := 153) (by decide +kernel))) rfl
theorem ws_X12_look : Cond.selects yX12_look.cls yX12_look yX12_look ∈ lw_ok := wd_1931
theorem wd_1929 : Cond.methodLink "UtilityBoardLaw" (177 : Nat) ({ cls := "UtilityBoardModel", name := "look", desc := "(II)I" } : MethodName) ∈ lw_ok := lw_ok_mem (tb_7 _ (List.mem_of_getElem? (i := 151) (by decide +kernel))) rfl
theorem cv__law_177 : CVW "UtilityBoardLaw" 177 yX12_look.cls yX12_look cX12_look 4 (some .int) 2 := ⟨wd_1929, wm_X12_look, ws_X12_look, wi_X12_look, wc_X12_look, wn_X12_look, wp_X12_look⟩
theorem wd_1271 : Cond.code ({ cls := "UtilityBoard", name := "count", desc := "(I)I" } : MethodName) prog_1_method_40_code (2 : Nat) (Option.some .int) ∈ lw_ok := lw_ok_mem (tb_4 _ (List.mem_of_getElem? (i := 213) rfl)) rfl
theorem wc_X11_count : Cond.code yX11_count cX11_count 2 (some .int) ∈ lw_ok := wd_1271
theorem wi_X11_count : Cond.initialized yX11_count.cls ∈ lw_ok := wd_99
theorem wn_X11_count : notMH yX11_count := ⟨by decide, by decide⟩
theorem wp_X11_count : (parseMethodDescriptor yX11_count.desc).map (fun d => d.parameters.length) = some 1 := by decide +kernel
theorem wd_1269 : Cond.instanceMethod ({ cls := "UtilityBoard", name := "count", desc := "(I)I" } : MethodName) ∈ lw_ok := lw_ok_mem (tb_4 _ (List.mem_of_getElem? (i := 211) (by decide +kernel))) rfl
theorem wm_X11_count : Cond.instanceMethod yX11_count ∈ lw_ok := wd_1269
theorem wd_1270 : Cond.selects "UtilityBoard" ({ cls := "UtilityBoard", name := "count", desc := "(I)I" } : MethodName) ({ cls := "UtilityBoard", name := "count", desc := "(I)I" } : MethodName) ∈ lw_ok := lw_ok_mem (tb_4 _ (List.mem_of_getElem? (i := 212) (by decide +kernel))) rfl
theorem ws_X11_count : Cond.selects yX11_count.cls yX11_count yX11_count ∈ lw_ok := wd_1270
theorem wd_1268 : Cond.methodLink "UtilityBoardLaw" (178 : Nat) ({ cls := "UtilityBoard", name := "count", desc := "(I)I" } : MethodName) ∈ lw_ok := lw_ok_mem (tb_4 _ (List.mem_of_getElem? (i := 210) (by decide +kernel))) rfl
theorem cv__law_178 : CVW "UtilityBoardLaw" 178 yX11_count.cls yX11_count cX11_count 2 (some .int) 1 := ⟨wd_1268, wm_X11_count, ws_X11_count, wi_X11_count, wc_X11_count, wn_X11_count, wp_X11_count⟩
theorem wd_1936 : Cond.code ({ cls := "UtilityBoardModel", name := "count", desc := "(I)I" } : MethodName) prog_14_method_94_code (2 : Nat) (Option.some .int) ∈ lw_ok := lw_ok_mem (tb_7 _ (List.mem_of_getElem? (i := 158) rfl)) rfl
theorem wc_X12_count : Cond.code yX12_count cX12_count 2 (some .int) ∈ lw_ok := wd_1936
theorem wi_X12_count : Cond.initialized yX12_count.cls ∈ lw_ok := wd_106
theorem wn_X12_count : notMH yX12_count := ⟨by decide, by decide⟩
theorem wp_X12_count : (parseMethodDescriptor yX12_count.desc).map (fun d => d.parameters.length) = some 1 := by decide +kernel
theorem wd_1934 : Cond.instanceMethod ({ cls := "UtilityBoardModel", name := "count", desc := "(I)I" } : MethodName) ∈ lw_ok := lw_ok_mem (tb_7 _ (List.mem_of_getElem? (i := 156) (by decide +kernel))) rfl
theorem wm_X12_count : Cond.instanceMethod yX12_count ∈ lw_ok := wd_1934
theorem wd_1935 : Cond.selects "UtilityBoardModel" ({ cls := "UtilityBoardModel", name := "count", desc := "(I)I" } : MethodName) ({ cls := "UtilityBoardModel", name := "count", desc := "(I)I" } : MethodName) ∈ lw_ok := lw_ok_mem (tb_7 _ (List.mem_of_getElem? (i := 157) (by decide +kernel))) rfl
theorem ws_X12_count : Cond.selects yX12_count.cls yX12_count yX12_count ∈ lw_ok := wd_1935
theorem wd_1933 : Cond.methodLink "UtilityBoardLaw" (181 : Nat) ({ cls := "UtilityBoardModel", name := "count", desc := "(I)I" } : MethodName) ∈ lw_ok := lw_ok_mem (tb_7 _ (List.mem_of_getElem? (i := 155) (by decide +kernel))) rfl
theorem cv__law_181 : CVW "UtilityBoardLaw" 181 yX12_count.cls yX12_count cX12_count 2 (some .int) 1 := ⟨wd_1933, wm_X12_count, ws_X12_count, wi_X12_count, wc_X12_count, wn_X12_count, wp_X12_count⟩
theorem wd_1576 : Cond.code ({ cls := "UtilityBoardModel", name := "in", desc := "(III)Z" } : MethodName) prog_14_method_2_code (3 : Nat) (Option.some .boolean) ∈ lw_ok := lw_ok_mem (tb_6 _ (List.mem_of_getElem? (i := 38) rfl)) rfl
theorem wc_X12_in : Cond.code yX12_in cX12_in 3 (some .boolean) ∈ lw_ok := wd_1576
theorem wi_X12_in : Cond.initialized yX12_in.cls ∈ lw_ok := wd_106
theorem wn_X12_in : notMH yX12_in := ⟨by decide, by decide⟩
theorem wp_X12_in : (parseMethodDescriptor yX12_in.desc).map (fun d => d.parameters.length) = some 3 := by decide +kernel
theorem wd_1575 : Cond.static ({ cls := "UtilityBoardModel", name := "in", desc := "(III)Z" } : MethodName) ∈ lw_ok := lw_ok_mem (tb_6 _ (List.mem_of_getElem? (i := 37) (by decide +kernel))) rfl
theorem wt_X12_in : Cond.static yX12_in ∈ lw_ok := wd_1575
theorem wd_1574 : Cond.methodLink "UtilityBoardModel" (245 : Nat) ({ cls := "UtilityBoardModel", name := "in", desc := "(III)Z" } : MethodName) ∈ lw_ok := lw_ok_mem (tb_6 _ (List.mem_of_getElem? (i := 36) (by decide +kernel))) rfl
theorem cs_X12_245 : CSW RX12 245 yX12_in cX12_in 3 (some .boolean) 3 := ⟨wd_1574, wt_X12_in, wi_X12_in, wc_X12_in, wn_X12_in, wp_X12_in⟩
theorem wd_1588 : Cond.code ({ cls := "UtilityBoardModel", name := "isDrawing", desc := "(I)Z" } : MethodName) prog_14_method_6_code (2 : Nat) (Option.some .boolean) ∈ lw_ok := lw_ok_mem (tb_6 _ (List.mem_of_getElem? (i := 50) rfl)) rfl
theorem wc_X12_isDrawing : Cond.code yX12_isDrawing cX12_isDrawing 2 (some .boolean) ∈ lw_ok := wd_1588
theorem wi_X12_isDrawing : Cond.initialized yX12_isDrawing.cls ∈ lw_ok := wd_106
theorem wn_X12_isDrawing : notMH yX12_isDrawing := ⟨by decide, by decide⟩
theorem wp_X12_isDrawing : (parseMethodDescriptor yX12_isDrawing.desc).map (fun d => d.parameters.length) = some 1 := by decide +kernel
theorem wd_1587 : Cond.instanceMethod ({ cls := "UtilityBoardModel", name := "isDrawing", desc := "(I)Z" } : MethodName) ∈ lw_ok := lw_ok_mem (tb_6 _ (List.mem_of_getElem? (i := 49) (by decide +kernel))) rfl
theorem wm_X12_isDrawing : Cond.instanceMethod yX12_isDrawing ∈ lw_ok := wd_1587
theorem wd_54 : Cond.selects "UtilityBoardModel" ⟨"UtilityBoardModel", "isDrawing", "(I)Z"⟩ ⟨"UtilityBoardModel", "isDrawing", "(I)Z"⟩ ∈ lw_ok := lw_ok_mem (List.mem_append_left _ (List.mem_of_getElem? (i := 54) (by decide +kernel))) rfl
theorem ws_X12_isDrawing : Cond.selects yX12_isDrawing.cls yX12_isDrawing yX12_isDrawing ∈ lw_ok := wd_54
theorem wd_1585 : Cond.methodLink "UtilityBoardModel" (249 : Nat) ({ cls := "UtilityBoardModel", name := "isDrawing", desc := "(I)Z" } : MethodName) ∈ lw_ok := lw_ok_mem (tb_6 _ (List.mem_of_getElem? (i := 47) (by decide +kernel))) rfl
theorem cv_X12_249 : CVW RX12 249 yX12_isDrawing.cls yX12_isDrawing cX12_isDrawing 2 (some .boolean) 1 := ⟨wd_1585, wm_X12_isDrawing, ws_X12_isDrawing, wi_X12_isDrawing, wc_X12_isDrawing, wn_X12_isDrawing, wp_X12_isDrawing⟩
theorem wd_1607 : Cond.code ({ cls := "UtilityBoardModel", name := "bearsOf", desc := "(I)I" } : MethodName) prog_14_method_12_code (1 : Nat) (Option.some .int) ∈ lw_ok := lw_ok_mem (tb_6 _ (List.mem_of_getElem? (i := 69) rfl)) rfl
theorem wc_X12_bearsOf : Cond.code yX12_bearsOf cX12_bearsOf 1 (some .int) ∈ lw_ok := wd_1607
theorem wi_X12_bearsOf : Cond.initialized yX12_bearsOf.cls ∈ lw_ok := wd_106
theorem wn_X12_bearsOf : notMH yX12_bearsOf := ⟨by decide, by decide⟩
theorem wp_X12_bearsOf : (parseMethodDescriptor yX12_bearsOf.desc).map (fun d => d.parameters.length) = some 1 := by decide +kernel
theorem wd_1606 : Cond.static ({ cls := "UtilityBoardModel", name := "bearsOf", desc := "(I)I" } : MethodName) ∈ lw_ok := lw_ok_mem (tb_6 _ (List.mem_of_getElem? (i := 68) (by decide +kernel))) rfl
theorem wt_X12_bearsOf : Cond.static yX12_bearsOf ∈ lw_ok := wd_1606
theorem wd_1605 : Cond.methodLink "UtilityBoardModel" (253 : Nat) ({ cls := "UtilityBoardModel", name := "bearsOf", desc := "(I)I" } : MethodName) ∈ lw_ok := lw_ok_mem (tb_6 _ (List.mem_of_getElem? (i := 67) (by decide +kernel))) rfl
theorem cs_X12_253 : CSW RX12 253 yX12_bearsOf cX12_bearsOf 1 (some .int) 1 := ⟨wd_1605, wt_X12_bearsOf, wi_X12_bearsOf, wc_X12_bearsOf, wn_X12_bearsOf, wp_X12_bearsOf⟩
theorem wd_1604 : Cond.code ({ cls := "UtilityBoardModel", name := "moreFlow", desc := "(II)I" } : MethodName) prog_14_method_14_code (8 : Nat) (Option.some .int) ∈ lw_ok := lw_ok_mem (tb_6 _ (List.mem_of_getElem? (i := 66) rfl)) rfl
theorem wc_X12_moreFlow : Cond.code yX12_moreFlow cX12_moreFlow 8 (some .int) ∈ lw_ok := wd_1604
theorem wi_X12_moreFlow : Cond.initialized yX12_moreFlow.cls ∈ lw_ok := wd_106
theorem wn_X12_moreFlow : notMH yX12_moreFlow := ⟨by decide, by decide⟩
theorem wp_X12_moreFlow : (parseMethodDescriptor yX12_moreFlow.desc).map (fun d => d.parameters.length) = some 2 := by decide +kernel
theorem wd_1603 : Cond.instanceMethod ({ cls := "UtilityBoardModel", name := "moreFlow", desc := "(II)I" } : MethodName) ∈ lw_ok := lw_ok_mem (tb_6 _ (List.mem_of_getElem? (i := 65) (by decide +kernel))) rfl
theorem wm_X12_moreFlow : Cond.instanceMethod yX12_moreFlow ∈ lw_ok := wd_1603
theorem wd_56 : Cond.selects "UtilityBoardModel" ⟨"UtilityBoardModel", "moreFlow", "(II)I"⟩ ⟨"UtilityBoardModel", "moreFlow", "(II)I"⟩ ∈ lw_ok := lw_ok_mem (List.mem_append_left _ (List.mem_of_getElem? (i := 56) (by decide +kernel))) rfl
theorem ws_X12_moreFlow : Cond.selects yX12_moreFlow.cls yX12_moreFlow yX12_moreFlow ∈ lw_ok := wd_56
theorem wd_1601 : Cond.methodLink "UtilityBoardModel" (258 : Nat) ({ cls := "UtilityBoardModel", name := "moreFlow", desc := "(II)I" } : MethodName) ∈ lw_ok := lw_ok_mem (tb_6 _ (List.mem_of_getElem? (i := 63) (by decide +kernel))) rfl
theorem cv_X12_258 : CVW RX12 258 yX12_moreFlow.cls yX12_moreFlow cX12_moreFlow 8 (some .int) 2 := ⟨wd_1601, wm_X12_moreFlow, ws_X12_moreFlow, wi_X12_moreFlow, wc_X12_moreFlow, wn_X12_moreFlow, wp_X12_moreFlow⟩
theorem wd_1600 : Cond.code ({ cls := "UtilityBoardModel", name := "isBearing", desc := "(I)Z" } : MethodName) prog_14_method_15_code (5 : Nat) (Option.some .boolean) ∈ lw_ok := lw_ok_mem (tb_6 _ (List.mem_of_getElem? (i := 62) rfl)) rfl
theorem wc_X12_isBearing : Cond.code yX12_isBearing cX12_isBearing 5 (some .boolean) ∈ lw_ok := wd_1600
theorem wi_X12_isBearing : Cond.initialized yX12_isBearing.cls ∈ lw_ok := wd_106
theorem wn_X12_isBearing : notMH yX12_isBearing := ⟨by decide, by decide⟩
theorem wp_X12_isBearing : (parseMethodDescriptor yX12_isBearing.desc).map (fun d => d.parameters.length) = some 1 := by decide +kernel
theorem wd_1599 : Cond.instanceMethod ({ cls := "UtilityBoardModel", name := "isBearing", desc := "(I)Z" } : MethodName) ∈ lw_ok := lw_ok_mem (tb_6 _ (List.mem_of_getElem? (i := 61) (by decide +kernel))) rfl
theorem wm_X12_isBearing : Cond.instanceMethod yX12_isBearing ∈ lw_ok := wd_1599
theorem wd_55 : Cond.selects "UtilityBoardModel" ⟨"UtilityBoardModel", "isBearing", "(I)Z"⟩ ⟨"UtilityBoardModel", "isBearing", "(I)Z"⟩ ∈ lw_ok := lw_ok_mem (List.mem_append_left _ (List.mem_of_getElem? (i := 55) (by decide +kernel))) rfl
theorem ws_X12_isBearing : Cond.selects yX12_isBearing.cls yX12_isBearing yX12_isBearing ∈ lw_ok := wd_55
theorem wd_1597 : Cond.methodLink "UtilityBoardModel" (262 : Nat) ({ cls := "UtilityBoardModel", name := "isBearing", desc := "(I)Z" } : MethodName) ∈ lw_ok := lw_ok_mem (tb_6 _ (List.mem_of_getElem? (i := 59) (by decide +kernel))) rfl
theorem cv_X12_262 : CVW RX12 262 yX12_isBearing.cls yX12_isBearing cX12_isBearing 5 (some .boolean) 1 := ⟨wd_1597, wm_X12_isBearing, ws_X12_isBearing, wi_X12_isBearing, wc_X12_isBearing, wn_X12_isBearing, wp_X12_isBearing⟩
theorem wd_1615 : Cond.code ({ cls := "UtilityBoardModel", name := "usesOf", desc := "(I)I" } : MethodName) prog_14_method_13_code (1 : Nat) (Option.some .int) ∈ lw_ok := lw_ok_mem (tb_6 _ (List.mem_of_getElem? (i := 77) rfl)) rfl
theorem wc_X12_usesOf : Cond.code yX12_usesOf cX12_usesOf 1 (some .int) ∈ lw_ok := wd_1615
theorem wi_X12_usesOf : Cond.initialized yX12_usesOf.cls ∈ lw_ok := wd_106
theorem wn_X12_usesOf : notMH yX12_usesOf := ⟨by decide, by decide⟩
theorem wp_X12_usesOf : (parseMethodDescriptor yX12_usesOf.desc).map (fun d => d.parameters.length) = some 1 := by decide +kernel
theorem wd_1614 : Cond.static ({ cls := "UtilityBoardModel", name := "usesOf", desc := "(I)I" } : MethodName) ∈ lw_ok := lw_ok_mem (tb_6 _ (List.mem_of_getElem? (i := 76) (by decide +kernel))) rfl
theorem wt_X12_usesOf : Cond.static yX12_usesOf ∈ lw_ok := wd_1614
theorem wd_1613 : Cond.methodLink "UtilityBoardModel" (265 : Nat) ({ cls := "UtilityBoardModel", name := "usesOf", desc := "(I)I" } : MethodName) ∈ lw_ok := lw_ok_mem (tb_6 _ (List.mem_of_getElem? (i := 75) (by decide +kernel))) rfl
theorem cs_X12_265 : CSW RX12 265 yX12_usesOf cX12_usesOf 1 (some .int) 1 := ⟨wd_1613, wt_X12_usesOf, wi_X12_usesOf, wc_X12_usesOf, wn_X12_usesOf, wp_X12_usesOf⟩
theorem wd_1623 : Cond.code ({ cls := "UtilityBoardModel", name := "isCloth", desc := "(I)Z" } : MethodName) prog_14_method_5_code (2 : Nat) (Option.some .boolean) ∈ lw_ok := lw_ok_mem (tb_6 _ (List.mem_of_getElem? (i := 85) rfl)) rfl
theorem wc_X12_isCloth : Cond.code yX12_isCloth cX12_isCloth 2 (some .boolean) ∈ lw_ok := wd_1623
theorem wi_X12_isCloth : Cond.initialized yX12_isCloth.cls ∈ lw_ok := wd_106
theorem wn_X12_isCloth : notMH yX12_isCloth := ⟨by decide, by decide⟩
theorem wp_X12_isCloth : (parseMethodDescriptor yX12_isCloth.desc).map (fun d => d.parameters.length) = some 1 := by decide +kernel
theorem wd_1622 : Cond.instanceMethod ({ cls := "UtilityBoardModel", name := "isCloth", desc := "(I)Z" } : MethodName) ∈ lw_ok := lw_ok_mem (tb_6 _ (List.mem_of_getElem? (i := 84) (by decide +kernel))) rfl
theorem wm_X12_isCloth : Cond.instanceMethod yX12_isCloth ∈ lw_ok := wd_1622
theorem wd_57 : Cond.selects "UtilityBoardModel" ⟨"UtilityBoardModel", "isCloth", "(I)Z"⟩ ⟨"UtilityBoardModel", "isCloth", "(I)Z"⟩ ∈ lw_ok := lw_ok_mem (List.mem_append_left _ (List.mem_of_getElem? (i := 57) (by decide +kernel))) rfl
theorem ws_X12_isCloth : Cond.selects yX12_isCloth.cls yX12_isCloth yX12_isCloth ∈ lw_ok := wd_57
theorem wd_1620 : Cond.methodLink "UtilityBoardModel" (268 : Nat) ({ cls := "UtilityBoardModel", name := "isCloth", desc := "(I)Z" } : MethodName) ∈ lw_ok := lw_ok_mem (tb_6 _ (List.mem_of_getElem? (i := 82) (by decide +kernel))) rfl
theorem cv_X12_268 : CVW RX12 268 yX12_isCloth.cls yX12_isCloth cX12_isCloth 2 (some .boolean) 1 := ⟨wd_1620, wm_X12_isCloth, ws_X12_isCloth, wi_X12_isCloth, wc_X12_isCloth, wn_X12_isCloth, wp_X12_isCloth⟩
theorem wd_1631 : Cond.code ({ cls := "UtilityBoardModel", name := "isThing", desc := "(I)Z" } : MethodName) prog_14_method_7_code (2 : Nat) (Option.some .boolean) ∈ lw_ok := lw_ok_mem (tb_6 _ (List.mem_of_getElem? (i := 93) rfl)) rfl
theorem wc_X12_isThing : Cond.code yX12_isThing cX12_isThing 2 (some .boolean) ∈ lw_ok := wd_1631
theorem wi_X12_isThing : Cond.initialized yX12_isThing.cls ∈ lw_ok := wd_106
theorem wn_X12_isThing : notMH yX12_isThing := ⟨by decide, by decide⟩
theorem wp_X12_isThing : (parseMethodDescriptor yX12_isThing.desc).map (fun d => d.parameters.length) = some 1 := by decide +kernel
theorem wd_1630 : Cond.instanceMethod ({ cls := "UtilityBoardModel", name := "isThing", desc := "(I)Z" } : MethodName) ∈ lw_ok := lw_ok_mem (tb_6 _ (List.mem_of_getElem? (i := 92) (by decide +kernel))) rfl
theorem wm_X12_isThing : Cond.instanceMethod yX12_isThing ∈ lw_ok := wd_1630
theorem wd_58 : Cond.selects "UtilityBoardModel" ⟨"UtilityBoardModel", "isThing", "(I)Z"⟩ ⟨"UtilityBoardModel", "isThing", "(I)Z"⟩ ∈ lw_ok := lw_ok_mem (List.mem_append_left _ (List.mem_of_getElem? (i := 58) (by decide +kernel))) rfl
theorem ws_X12_isThing : Cond.selects yX12_isThing.cls yX12_isThing yX12_isThing ∈ lw_ok := wd_58
theorem wd_1628 : Cond.methodLink "UtilityBoardModel" (271 : Nat) ({ cls := "UtilityBoardModel", name := "isThing", desc := "(I)Z" } : MethodName) ∈ lw_ok := lw_ok_mem (tb_6 _ (List.mem_of_getElem? (i := 90) (by decide +kernel))) rfl
theorem cv_X12_271 : CVW RX12 271 yX12_isThing.cls yX12_isThing cX12_isThing 2 (some .boolean) 1 := ⟨wd_1628, wm_X12_isThing, ws_X12_isThing, wi_X12_isThing, wc_X12_isThing, wn_X12_isThing, wp_X12_isThing⟩
theorem wd_1639 : Cond.code ({ cls := "UtilityBoardModel", name := "isWider", desc := "(II)Z" } : MethodName) prog_14_method_20_code (4 : Nat) (Option.some .boolean) ∈ lw_ok := lw_ok_mem (tb_6 _ (List.mem_of_getElem? (i := 101) rfl)) rfl
theorem wc_X12_isWider : Cond.code yX12_isWider cX12_isWider 4 (some .boolean) ∈ lw_ok := wd_1639
theorem wi_X12_isWider : Cond.initialized yX12_isWider.cls ∈ lw_ok := wd_106
theorem wn_X12_isWider : notMH yX12_isWider := ⟨by decide, by decide⟩
theorem wp_X12_isWider : (parseMethodDescriptor yX12_isWider.desc).map (fun d => d.parameters.length) = some 2 := by decide +kernel
theorem wd_1638 : Cond.instanceMethod ({ cls := "UtilityBoardModel", name := "isWider", desc := "(II)Z" } : MethodName) ∈ lw_ok := lw_ok_mem (tb_6 _ (List.mem_of_getElem? (i := 100) (by decide +kernel))) rfl
theorem wm_X12_isWider : Cond.instanceMethod yX12_isWider ∈ lw_ok := wd_1638
theorem wd_59 : Cond.selects "UtilityBoardModel" ⟨"UtilityBoardModel", "isWider", "(II)Z"⟩ ⟨"UtilityBoardModel", "isWider", "(II)Z"⟩ ∈ lw_ok := lw_ok_mem (List.mem_append_left _ (List.mem_of_getElem? (i := 59) (by decide +kernel))) rfl
theorem ws_X12_isWider : Cond.selects yX12_isWider.cls yX12_isWider yX12_isWider ∈ lw_ok := wd_59
theorem wd_1636 : Cond.methodLink "UtilityBoardModel" (277 : Nat) ({ cls := "UtilityBoardModel", name := "isWider", desc := "(II)Z" } : MethodName) ∈ lw_ok := lw_ok_mem (tb_6 _ (List.mem_of_getElem? (i := 98) (by decide +kernel))) rfl
theorem cv_X12_277 : CVW RX12 277 yX12_isWider.cls yX12_isWider cX12_isWider 4 (some .boolean) 2 := ⟨wd_1636, wm_X12_isWider, ws_X12_isWider, wi_X12_isWider, wc_X12_isWider, wn_X12_isWider, wp_X12_isWider⟩
theorem wd_1643 : Cond.code ({ cls := "UtilityBoardModel", name := "lengthOf", desc := "(II)I" } : MethodName) prog_14_method_21_code (8 : Nat) (Option.some .int) ∈ lw_ok := lw_ok_mem (tb_6 _ (List.mem_of_getElem? (i := 105) rfl)) rfl
theorem wc_X12_lengthOf : Cond.code yX12_lengthOf cX12_lengthOf 8 (some .int) ∈ lw_ok := wd_1643
theorem wi_X12_lengthOf : Cond.initialized yX12_lengthOf.cls ∈ lw_ok := wd_106
theorem wn_X12_lengthOf : notMH yX12_lengthOf := ⟨by decide, by decide⟩
theorem wp_X12_lengthOf : (parseMethodDescriptor yX12_lengthOf.desc).map (fun d => d.parameters.length) = some 2 := by decide +kernel
theorem wd_1642 : Cond.instanceMethod ({ cls := "UtilityBoardModel", name := "lengthOf", desc := "(II)I" } : MethodName) ∈ lw_ok := lw_ok_mem (tb_6 _ (List.mem_of_getElem? (i := 104) (by decide +kernel))) rfl
theorem wm_X12_lengthOf : Cond.instanceMethod yX12_lengthOf ∈ lw_ok := wd_1642
theorem wd_60 : Cond.selects "UtilityBoardModel" ⟨"UtilityBoardModel", "lengthOf", "(II)I"⟩ ⟨"UtilityBoardModel", "lengthOf", "(II)I"⟩ ∈ lw_ok := lw_ok_mem (List.mem_append_left _ (List.mem_of_getElem? (i := 60) (by decide +kernel))) rfl
theorem ws_X12_lengthOf : Cond.selects yX12_lengthOf.cls yX12_lengthOf yX12_lengthOf ∈ lw_ok := wd_60
theorem wd_1640 : Cond.methodLink "UtilityBoardModel" (281 : Nat) ({ cls := "UtilityBoardModel", name := "lengthOf", desc := "(II)I" } : MethodName) ∈ lw_ok := lw_ok_mem (tb_6 _ (List.mem_of_getElem? (i := 102) (by decide +kernel))) rfl
theorem cv_X12_281 : CVW RX12 281 yX12_lengthOf.cls yX12_lengthOf cX12_lengthOf 8 (some .int) 2 := ⟨wd_1640, wm_X12_lengthOf, ws_X12_lengthOf, wi_X12_lengthOf, wc_X12_lengthOf, wn_X12_lengthOf, wp_X12_lengthOf⟩
theorem wd_1655 : Cond.code ({ cls := "UtilityBoardModel", name := "swaps", desc := "(II)V" } : MethodName) prog_14_method_23_code (4 : Nat) none ∈ lw_ok := lw_ok_mem (tb_6 _ (List.mem_of_getElem? (i := 117) rfl)) rfl
theorem wc_X12_swaps : Cond.code yX12_swaps cX12_swaps 4 none ∈ lw_ok := wd_1655
theorem wi_X12_swaps : Cond.initialized yX12_swaps.cls ∈ lw_ok := wd_106
theorem wn_X12_swaps : notMH yX12_swaps := ⟨by decide, by decide⟩
theorem wp_X12_swaps : (parseMethodDescriptor yX12_swaps.desc).map (fun d => d.parameters.length) = some 2 := by decide +kernel
theorem wd_1654 : Cond.instanceMethod ({ cls := "UtilityBoardModel", name := "swaps", desc := "(II)V" } : MethodName) ∈ lw_ok := lw_ok_mem (tb_6 _ (List.mem_of_getElem? (i := 116) (by decide +kernel))) rfl
theorem wm_X12_swaps : Cond.instanceMethod yX12_swaps ∈ lw_ok := wd_1654
theorem wd_62 : Cond.selects "UtilityBoardModel" ⟨"UtilityBoardModel", "swaps", "(II)V"⟩ ⟨"UtilityBoardModel", "swaps", "(II)V"⟩ ∈ lw_ok := lw_ok_mem (List.mem_append_left _ (List.mem_of_getElem? (i := 62) (by decide +kernel))) rfl
theorem ws_X12_swaps : Cond.selects yX12_swaps.cls yX12_swaps yX12_swaps ∈ lw_ok := wd_62
theorem wd_1652 : Cond.methodLink "UtilityBoardModel" (284 : Nat) ({ cls := "UtilityBoardModel", name := "swaps", desc := "(II)V" } : MethodName) ∈ lw_ok := lw_ok_mem (tb_6 _ (List.mem_of_getElem? (i := 114) (by decide +kernel))) rfl
theorem cv_X12_284 : CVW RX12 284 yX12_swaps.cls yX12_swaps cX12_swaps 4 none 2 := ⟨wd_1652, wm_X12_swaps, ws_X12_swaps, wi_X12_swaps, wc_X12_swaps, wn_X12_swaps, wp_X12_swaps⟩
theorem wd_1651 : Cond.code ({ cls := "UtilityBoardModel", name := "nextRow", desc := "(I)Z" } : MethodName) prog_14_method_24_code (6 : Nat) (Option.some .boolean) ∈ lw_ok := lw_ok_mem (tb_6 _ (List.mem_of_getElem? (i := 113) rfl)) rfl
theorem wc_X12_nextRow : Cond.code yX12_nextRow cX12_nextRow 6 (some .boolean) ∈ lw_ok := wd_1651
theorem wi_X12_nextRow : Cond.initialized yX12_nextRow.cls ∈ lw_ok := wd_106
theorem wn_X12_nextRow : notMH yX12_nextRow := ⟨by decide, by decide⟩
theorem wp_X12_nextRow : (parseMethodDescriptor yX12_nextRow.desc).map (fun d => d.parameters.length) = some 1 := by decide +kernel
theorem wd_1650 : Cond.instanceMethod ({ cls := "UtilityBoardModel", name := "nextRow", desc := "(I)Z" } : MethodName) ∈ lw_ok := lw_ok_mem (tb_6 _ (List.mem_of_getElem? (i := 112) (by decide +kernel))) rfl
theorem wm_X12_nextRow : Cond.instanceMethod yX12_nextRow ∈ lw_ok := wd_1650
theorem wd_61 : Cond.selects "UtilityBoardModel" ⟨"UtilityBoardModel", "nextRow", "(I)Z"⟩ ⟨"UtilityBoardModel", "nextRow", "(I)Z"⟩ ∈ lw_ok := lw_ok_mem (List.mem_append_left _ (List.mem_of_getElem? (i := 61) (by decide +kernel))) rfl
theorem ws_X12_nextRow : Cond.selects yX12_nextRow.cls yX12_nextRow yX12_nextRow ∈ lw_ok := wd_61
theorem wd_1648 : Cond.methodLink "UtilityBoardModel" (288 : Nat) ({ cls := "UtilityBoardModel", name := "nextRow", desc := "(I)Z" } : MethodName) ∈ lw_ok := lw_ok_mem (tb_6 _ (List.mem_of_getElem? (i := 110) (by decide +kernel))) rfl
theorem cv_X12_288 : CVW RX12 288 yX12_nextRow.cls yX12_nextRow cX12_nextRow 6 (some .boolean) 1 := ⟨wd_1648, wm_X12_nextRow, ws_X12_nextRow, wi_X12_nextRow, wc_X12_nextRow, wn_X12_nextRow, wp_X12_nextRow⟩
theorem wd_1667 : Cond.code ({ cls := "UtilityBoardModel", name := "isMaker", desc := "(I)Z" } : MethodName) prog_14_method_26_code (2 : Nat) (Option.some .boolean) ∈ lw_ok := lw_ok_mem (tb_6 _ (List.mem_of_getElem? (i := 129) rfl)) rfl
theorem wc_X12_isMaker : Cond.code yX12_isMaker cX12_isMaker 2 (some .boolean) ∈ lw_ok := wd_1667
theorem wi_X12_isMaker : Cond.initialized yX12_isMaker.cls ∈ lw_ok := wd_106
theorem wn_X12_isMaker : notMH yX12_isMaker := ⟨by decide, by decide⟩
theorem wp_X12_isMaker : (parseMethodDescriptor yX12_isMaker.desc).map (fun d => d.parameters.length) = some 1 := by decide +kernel
theorem wd_1666 : Cond.instanceMethod ({ cls := "UtilityBoardModel", name := "isMaker", desc := "(I)Z" } : MethodName) ∈ lw_ok := lw_ok_mem (tb_6 _ (List.mem_of_getElem? (i := 128) (by decide +kernel))) rfl
theorem wm_X12_isMaker : Cond.instanceMethod yX12_isMaker ∈ lw_ok := wd_1666
theorem wd_63 : Cond.selects "UtilityBoardModel" ⟨"UtilityBoardModel", "isMaker", "(I)Z"⟩ ⟨"UtilityBoardModel", "isMaker", "(I)Z"⟩ ∈ lw_ok := lw_ok_mem (List.mem_append_left _ (List.mem_of_getElem? (i := 63) (by decide +kernel))) rfl
theorem ws_X12_isMaker : Cond.selects yX12_isMaker.cls yX12_isMaker yX12_isMaker ∈ lw_ok := wd_63
theorem wd_1664 : Cond.methodLink "UtilityBoardModel" (294 : Nat) ({ cls := "UtilityBoardModel", name := "isMaker", desc := "(I)Z" } : MethodName) ∈ lw_ok := lw_ok_mem (tb_6 _ (List.mem_of_getElem? (i := 126) (by decide +kernel))) rfl
theorem cv_X12_294 : CVW RX12 294 yX12_isMaker.cls yX12_isMaker cX12_isMaker 2 (some .boolean) 1 := ⟨wd_1664, wm_X12_isMaker, ws_X12_isMaker, wi_X12_isMaker, wc_X12_isMaker, wn_X12_isMaker, wp_X12_isMaker⟩
theorem wd_1680 : Cond.code ({ cls := "UtilityBoardModel", name := "types", desc := "(I)V" } : MethodName) prog_14_method_30_code (3 : Nat) none ∈ lw_ok := lw_ok_mem (tb_6 _ (List.mem_of_getElem? (i := 142) rfl)) rfl
theorem wc_X12_types : Cond.code yX12_types cX12_types 3 none ∈ lw_ok := wd_1680
theorem wi_X12_types : Cond.initialized yX12_types.cls ∈ lw_ok := wd_106
theorem wn_X12_types : notMH yX12_types := ⟨by decide, by decide⟩
theorem wp_X12_types : (parseMethodDescriptor yX12_types.desc).map (fun d => d.parameters.length) = some 1 := by decide +kernel
theorem wd_1679 : Cond.instanceMethod ({ cls := "UtilityBoardModel", name := "types", desc := "(I)V" } : MethodName) ∈ lw_ok := lw_ok_mem (tb_6 _ (List.mem_of_getElem? (i := 141) (by decide +kernel))) rfl
theorem wm_X12_types : Cond.instanceMethod yX12_types ∈ lw_ok := wd_1679
theorem wd_64 : Cond.selects "UtilityBoardModel" ⟨"UtilityBoardModel", "types", "(I)V"⟩ ⟨"UtilityBoardModel", "types", "(I)V"⟩ ∈ lw_ok := lw_ok_mem (List.mem_append_left _ (List.mem_of_getElem? (i := 64) (by decide +kernel))) rfl
theorem ws_X12_types : Cond.selects yX12_types.cls yX12_types yX12_types ∈ lw_ok := wd_64
theorem wd_1677 : Cond.methodLink "UtilityBoardModel" (298 : Nat) ({ cls := "UtilityBoardModel", name := "types", desc := "(I)V" } : MethodName) ∈ lw_ok := lw_ok_mem (tb_6 _ (List.mem_of_getElem? (i := 139) (by decide +kernel))) rfl
theorem cv_X12_298 : CVW RX12 298 yX12_types.cls yX12_types cX12_types 3 none 1 := ⟨wd_1677, wm_X12_types, ws_X12_types, wi_X12_types, wc_X12_types, wn_X12_types, wp_X12_types⟩
theorem wd_1695 : Cond.code ({ cls := "UtilityBoardModel", name := "here", desc := "()I" } : MethodName) prog_14_method_32_code (1 : Nat) (Option.some .int) ∈ lw_ok := lw_ok_mem (tb_6 _ (List.mem_of_getElem? (i := 157) rfl)) rfl
theorem wc_X12_here : Cond.code yX12_here cX12_here 1 (some .int) ∈ lw_ok := wd_1695
theorem wi_X12_here : Cond.initialized yX12_here.cls ∈ lw_ok := wd_106
theorem wn_X12_here : notMH yX12_here := ⟨by decide, by decide⟩
theorem wp_X12_here : (parseMethodDescriptor yX12_here.desc).map (fun d => d.parameters.length) = some 0 := by decide +kernel
theorem wd_1694 : Cond.instanceMethod ({ cls := "UtilityBoardModel", name := "here", desc := "()I" } : MethodName) ∈ lw_ok := lw_ok_mem (tb_6 _ (List.mem_of_getElem? (i := 156) (by decide +kernel))) rfl
theorem wm_X12_here : Cond.instanceMethod yX12_here ∈ lw_ok := wd_1694
theorem wd_66 : Cond.selects "UtilityBoardModel" ⟨"UtilityBoardModel", "here", "()I"⟩ ⟨"UtilityBoardModel", "here", "()I"⟩ ∈ lw_ok := lw_ok_mem (List.mem_append_left _ (List.mem_of_getElem? (i := 66) (by decide +kernel))) rfl
theorem ws_X12_here : Cond.selects yX12_here.cls yX12_here yX12_here ∈ lw_ok := wd_66
theorem wd_1692 : Cond.methodLink "UtilityBoardModel" (308 : Nat) ({ cls := "UtilityBoardModel", name := "here", desc := "()I" } : MethodName) ∈ lw_ok := lw_ok_mem (tb_6 _ (List.mem_of_getElem? (i := 154) (by decide +kernel))) rfl
theorem cv_X12_308 : CVW RX12 308 yX12_here.cls yX12_here cX12_here 1 (some .int) 0 := ⟨wd_1692, wm_X12_here, ws_X12_here, wi_X12_here, wc_X12_here, wn_X12_here, wp_X12_here⟩
theorem wd_1702 : Cond.code ({ cls := "UtilityBoardModel", name := "wrong", desc := "(II)Z" } : MethodName) prog_14_method_34_code (3 : Nat) (Option.some .boolean) ∈ lw_ok := lw_ok_mem (tb_6 _ (List.mem_of_getElem? (i := 164) rfl)) rfl
theorem wc_X12_wrong : Cond.code yX12_wrong cX12_wrong 3 (some .boolean) ∈ lw_ok := wd_1702
theorem wi_X12_wrong : Cond.initialized yX12_wrong.cls ∈ lw_ok := wd_106
theorem wn_X12_wrong : notMH yX12_wrong := ⟨by decide, by decide⟩
theorem wp_X12_wrong : (parseMethodDescriptor yX12_wrong.desc).map (fun d => d.parameters.length) = some 2 := by decide +kernel
theorem wd_1701 : Cond.instanceMethod ({ cls := "UtilityBoardModel", name := "wrong", desc := "(II)Z" } : MethodName) ∈ lw_ok := lw_ok_mem (tb_6 _ (List.mem_of_getElem? (i := 163) (by decide +kernel))) rfl
theorem wm_X12_wrong : Cond.instanceMethod yX12_wrong ∈ lw_ok := wd_1701
theorem wd_67 : Cond.selects "UtilityBoardModel" ⟨"UtilityBoardModel", "wrong", "(II)Z"⟩ ⟨"UtilityBoardModel", "wrong", "(II)Z"⟩ ∈ lw_ok := lw_ok_mem (List.mem_append_left _ (List.mem_of_getElem? (i := 67) (by decide +kernel))) rfl
theorem ws_X12_wrong : Cond.selects yX12_wrong.cls yX12_wrong yX12_wrong ∈ lw_ok := wd_67
theorem wd_1699 : Cond.methodLink "UtilityBoardModel" (315 : Nat) ({ cls := "UtilityBoardModel", name := "wrong", desc := "(II)Z" } : MethodName) ∈ lw_ok := lw_ok_mem (tb_6 _ (List.mem_of_getElem? (i := 161) (by decide +kernel))) rfl
theorem cv_X12_315 : CVW RX12 315 yX12_wrong.cls yX12_wrong cX12_wrong 3 (some .boolean) 2 := ⟨wd_1699, wm_X12_wrong, ws_X12_wrong, wi_X12_wrong, wc_X12_wrong, wn_X12_wrong, wp_X12_wrong⟩
theorem wd_1711 : Cond.code ({ cls := "UtilityBoardModel", name := "isDigit", desc := "()Z" } : MethodName) prog_14_method_33_code (1 : Nat) (Option.some .boolean) ∈ lw_ok := lw_ok_mem (tb_6 _ (List.mem_of_getElem? (i := 173) rfl)) rfl
theorem wc_X12_isDigit : Cond.code yX12_isDigit cX12_isDigit 1 (some .boolean) ∈ lw_ok := wd_1711
theorem wi_X12_isDigit : Cond.initialized yX12_isDigit.cls ∈ lw_ok := wd_106
theorem wn_X12_isDigit : notMH yX12_isDigit := ⟨by decide, by decide⟩
theorem wp_X12_isDigit : (parseMethodDescriptor yX12_isDigit.desc).map (fun d => d.parameters.length) = some 0 := by decide +kernel
theorem wd_1710 : Cond.instanceMethod ({ cls := "UtilityBoardModel", name := "isDigit", desc := "()Z" } : MethodName) ∈ lw_ok := lw_ok_mem (tb_6 _ (List.mem_of_getElem? (i := 172) (by decide +kernel))) rfl
theorem wm_X12_isDigit : Cond.instanceMethod yX12_isDigit ∈ lw_ok := wd_1710
theorem wd_69 : Cond.selects "UtilityBoardModel" ⟨"UtilityBoardModel", "isDigit", "()Z"⟩ ⟨"UtilityBoardModel", "isDigit", "()Z"⟩ ∈ lw_ok := lw_ok_mem (List.mem_append_left _ (List.mem_of_getElem? (i := 69) (by decide +kernel))) rfl
theorem ws_X12_isDigit : Cond.selects yX12_isDigit.cls yX12_isDigit yX12_isDigit ∈ lw_ok := wd_69
theorem wd_1708 : Cond.methodLink "UtilityBoardModel" (321 : Nat) ({ cls := "UtilityBoardModel", name := "isDigit", desc := "()Z" } : MethodName) ∈ lw_ok := lw_ok_mem (tb_6 _ (List.mem_of_getElem? (i := 170) (by decide +kernel))) rfl
theorem cv_X12_321 : CVW RX12 321 yX12_isDigit.cls yX12_isDigit cX12_isDigit 1 (some .boolean) 0 := ⟨wd_1708, wm_X12_isDigit, ws_X12_isDigit, wi_X12_isDigit, wc_X12_isDigit, wn_X12_isDigit, wp_X12_isDigit⟩
theorem wd_1754 : Cond.code ({ cls := "UtilityBoardModel", name := "top", desc := "()I" } : MethodName) prog_14_method_39_code (1 : Nat) (Option.some .int) ∈ lw_ok := lw_ok_mem (tb_6 _ (List.mem_of_getElem? (i := 216) rfl)) rfl
theorem wc_X12_top : Cond.code yX12_top cX12_top 1 (some .int) ∈ lw_ok := wd_1754
theorem wi_X12_top : Cond.initialized yX12_top.cls ∈ lw_ok := wd_106
theorem wn_X12_top : notMH yX12_top := ⟨by decide, by decide⟩
theorem wp_X12_top : (parseMethodDescriptor yX12_top.desc).map (fun d => d.parameters.length) = some 0 := by decide +kernel
theorem wd_1753 : Cond.instanceMethod ({ cls := "UtilityBoardModel", name := "top", desc := "()I" } : MethodName) ∈ lw_ok := lw_ok_mem (tb_6 _ (List.mem_of_getElem? (i := 215) (by decide +kernel))) rfl
theorem wm_X12_top : Cond.instanceMethod yX12_top ∈ lw_ok := wd_1753
theorem wd_78 : Cond.selects "UtilityBoardModel" ⟨"UtilityBoardModel", "top", "()I"⟩ ⟨"UtilityBoardModel", "top", "()I"⟩ ∈ lw_ok := lw_ok_mem (List.mem_append_left _ (List.mem_of_getElem? (i := 78) (by decide +kernel))) rfl
theorem ws_X12_top : Cond.selects yX12_top.cls yX12_top yX12_top ∈ lw_ok := wd_78
theorem wd_1751 : Cond.methodLink "UtilityBoardModel" (335 : Nat) ({ cls := "UtilityBoardModel", name := "top", desc := "()I" } : MethodName) ∈ lw_ok := lw_ok_mem (tb_6 _ (List.mem_of_getElem? (i := 213) (by decide +kernel))) rfl
theorem cv_X12_335 : CVW RX12 335 yX12_top.cls yX12_top cX12_top 1 (some .int) 0 := ⟨wd_1751, wm_X12_top, ws_X12_top, wi_X12_top, wc_X12_top, wn_X12_top, wp_X12_top⟩
theorem wd_1740 : Cond.code ({ cls := "UtilityBoardModel", name := "says", desc := "(II)V" } : MethodName) prog_14_method_37_code (3 : Nat) none ∈ lw_ok := lw_ok_mem (tb_6 _ (List.mem_of_getElem? (i := 202) rfl)) rfl
theorem wc_X12_says : Cond.code yX12_says cX12_says 3 none ∈ lw_ok := wd_1740
theorem wi_X12_says : Cond.initialized yX12_says.cls ∈ lw_ok := wd_106
theorem wn_X12_says : notMH yX12_says := ⟨by decide, by decide⟩
theorem wp_X12_says : (parseMethodDescriptor yX12_says.desc).map (fun d => d.parameters.length) = some 2 := by decide +kernel
theorem wd_1739 : Cond.instanceMethod ({ cls := "UtilityBoardModel", name := "says", desc := "(II)V" } : MethodName) ∈ lw_ok := lw_ok_mem (tb_6 _ (List.mem_of_getElem? (i := 201) (by decide +kernel))) rfl
theorem wm_X12_says : Cond.instanceMethod yX12_says ∈ lw_ok := wd_1739
theorem wd_76 : Cond.selects "UtilityBoardModel" ⟨"UtilityBoardModel", "says", "(II)V"⟩ ⟨"UtilityBoardModel", "says", "(II)V"⟩ ∈ lw_ok := lw_ok_mem (List.mem_append_left _ (List.mem_of_getElem? (i := 76) (by decide +kernel))) rfl
theorem ws_X12_says : Cond.selects yX12_says.cls yX12_says yX12_says ∈ lw_ok := wd_76
theorem wd_1737 : Cond.methodLink "UtilityBoardModel" (338 : Nat) ({ cls := "UtilityBoardModel", name := "says", desc := "(II)V" } : MethodName) ∈ lw_ok := lw_ok_mem (tb_6 _ (List.mem_of_getElem? (i := 199) (by decide +kernel))) rfl
theorem cv_X12_338 : CVW RX12 338 yX12_says.cls yX12_says cX12_says 3 none 2 := ⟨wd_1737, wm_X12_says, ws_X12_says, wi_X12_says, wc_X12_says, wn_X12_says, wp_X12_says⟩
theorem wd_1723 : Cond.code ({ cls := "UtilityBoardModel", name := "opens", desc := "(I)Z" } : MethodName) prog_14_method_38_code (2 : Nat) (Option.some .boolean) ∈ lw_ok := lw_ok_mem (tb_6 _ (List.mem_of_getElem? (i := 185) rfl)) rfl
theorem wc_X12_opens : Cond.code yX12_opens cX12_opens 2 (some .boolean) ∈ lw_ok := wd_1723
theorem wi_X12_opens : Cond.initialized yX12_opens.cls ∈ lw_ok := wd_106
theorem wn_X12_opens : notMH yX12_opens := ⟨by decide, by decide⟩
theorem wp_X12_opens : (parseMethodDescriptor yX12_opens.desc).map (fun d => d.parameters.length) = some 1 := by decide +kernel
theorem wd_1722 : Cond.instanceMethod ({ cls := "UtilityBoardModel", name := "opens", desc := "(I)Z" } : MethodName) ∈ lw_ok := lw_ok_mem (tb_6 _ (List.mem_of_getElem? (i := 184) (by decide +kernel))) rfl
theorem wm_X12_opens : Cond.instanceMethod yX12_opens ∈ lw_ok := wd_1722
theorem wd_72 : Cond.selects "UtilityBoardModel" ⟨"UtilityBoardModel", "opens", "(I)Z"⟩ ⟨"UtilityBoardModel", "opens", "(I)Z"⟩ ∈ lw_ok := lw_ok_mem (List.mem_append_left _ (List.mem_of_getElem? (i := 72) (by decide +kernel))) rfl
theorem ws_X12_opens : Cond.selects yX12_opens.cls yX12_opens yX12_opens ∈ lw_ok := wd_72
theorem wd_1720 : Cond.methodLink "UtilityBoardModel" (341 : Nat) ({ cls := "UtilityBoardModel", name := "opens", desc := "(I)Z" } : MethodName) ∈ lw_ok := lw_ok_mem (tb_6 _ (List.mem_of_getElem? (i := 182) (by decide +kernel))) rfl
theorem cv_X12_341 : CVW RX12 341 yX12_opens.cls yX12_opens cX12_opens 2 (some .boolean) 1 := ⟨wd_1720, wm_X12_opens, ws_X12_opens, wi_X12_opens, wc_X12_opens, wn_X12_opens, wp_X12_opens⟩
theorem wd_1707 : Cond.code ({ cls := "UtilityBoardModel", name := "readsNumber", desc := "(I)Z" } : MethodName) prog_14_method_36_code (3 : Nat) (Option.some .boolean) ∈ lw_ok := lw_ok_mem (tb_6 _ (List.mem_of_getElem? (i := 169) rfl)) rfl
theorem wc_X12_readsNumber : Cond.code yX12_readsNumber cX12_readsNumber 3 (some .boolean) ∈ lw_ok := wd_1707
theorem wi_X12_readsNumber : Cond.initialized yX12_readsNumber.cls ∈ lw_ok := wd_106
theorem wn_X12_readsNumber : notMH yX12_readsNumber := ⟨by decide, by decide⟩
theorem wp_X12_readsNumber : (parseMethodDescriptor yX12_readsNumber.desc).map (fun d => d.parameters.length) = some 1 := by decide +kernel
theorem wd_1706 : Cond.instanceMethod ({ cls := "UtilityBoardModel", name := "readsNumber", desc := "(I)Z" } : MethodName) ∈ lw_ok := lw_ok_mem (tb_6 _ (List.mem_of_getElem? (i := 168) (by decide +kernel))) rfl
theorem wm_X12_readsNumber : Cond.instanceMethod yX12_readsNumber ∈ lw_ok := wd_1706
theorem wd_68 : Cond.selects "UtilityBoardModel" ⟨"UtilityBoardModel", "readsNumber", "(I)Z"⟩ ⟨"UtilityBoardModel", "readsNumber", "(I)Z"⟩ ∈ lw_ok := lw_ok_mem (List.mem_append_left _ (List.mem_of_getElem? (i := 68) (by decide +kernel))) rfl
theorem ws_X12_readsNumber : Cond.selects yX12_readsNumber.cls yX12_readsNumber yX12_readsNumber ∈ lw_ok := wd_68
theorem wd_1704 : Cond.methodLink "UtilityBoardModel" (345 : Nat) ({ cls := "UtilityBoardModel", name := "readsNumber", desc := "(I)Z" } : MethodName) ∈ lw_ok := lw_ok_mem (tb_6 _ (List.mem_of_getElem? (i := 166) (by decide +kernel))) rfl
theorem cv_X12_345 : CVW RX12 345 yX12_readsNumber.cls yX12_readsNumber cX12_readsNumber 3 (some .boolean) 1 := ⟨wd_1704, wm_X12_readsNumber, ws_X12_readsNumber, wi_X12_readsNumber, wc_X12_readsNumber, wn_X12_readsNumber, wp_X12_readsNumber⟩
theorem wd_1743 : Cond.code ({ cls := "UtilityBoardModel", name := "factOf", desc := "(I)I" } : MethodName) prog_14_method_40_code (1 : Nat) (Option.some .int) ∈ lw_ok := lw_ok_mem (tb_6 _ (List.mem_of_getElem? (i := 205) rfl)) rfl
theorem wc_X12_factOf : Cond.code yX12_factOf cX12_factOf 1 (some .int) ∈ lw_ok := wd_1743
theorem wi_X12_factOf : Cond.initialized yX12_factOf.cls ∈ lw_ok := wd_106
theorem wn_X12_factOf : notMH yX12_factOf := ⟨by decide, by decide⟩
theorem wp_X12_factOf : (parseMethodDescriptor yX12_factOf.desc).map (fun d => d.parameters.length) = some 1 := by decide +kernel
theorem wd_1742 : Cond.static ({ cls := "UtilityBoardModel", name := "factOf", desc := "(I)I" } : MethodName) ∈ lw_ok := lw_ok_mem (tb_6 _ (List.mem_of_getElem? (i := 204) (by decide +kernel))) rfl
theorem wt_X12_factOf : Cond.static yX12_factOf ∈ lw_ok := wd_1742
theorem wd_1741 : Cond.methodLink "UtilityBoardModel" (348 : Nat) ({ cls := "UtilityBoardModel", name := "factOf", desc := "(I)I" } : MethodName) ∈ lw_ok := lw_ok_mem (tb_6 _ (List.mem_of_getElem? (i := 203) (by decide +kernel))) rfl
theorem cs_X12_348 : CSW RX12 348 yX12_factOf cX12_factOf 1 (some .int) 1 := ⟨wd_1741, wt_X12_factOf, wi_X12_factOf, wc_X12_factOf, wn_X12_factOf, wp_X12_factOf⟩
theorem wd_1736 : Cond.code ({ cls := "UtilityBoardModel", name := "readsFactor", desc := "()Z" } : MethodName) prog_14_method_43_code (2 : Nat) (Option.some .boolean) ∈ lw_ok := lw_ok_mem (tb_6 _ (List.mem_of_getElem? (i := 198) rfl)) rfl
theorem wc_X12_readsFactor : Cond.code yX12_readsFactor cX12_readsFactor 2 (some .boolean) ∈ lw_ok := wd_1736
theorem wi_X12_readsFactor : Cond.initialized yX12_readsFactor.cls ∈ lw_ok := wd_106
theorem wn_X12_readsFactor : notMH yX12_readsFactor := ⟨by decide, by decide⟩
theorem wp_X12_readsFactor : (parseMethodDescriptor yX12_readsFactor.desc).map (fun d => d.parameters.length) = some 0 := by decide +kernel
theorem wd_1735 : Cond.instanceMethod ({ cls := "UtilityBoardModel", name := "readsFactor", desc := "()Z" } : MethodName) ∈ lw_ok := lw_ok_mem (tb_6 _ (List.mem_of_getElem? (i := 197) (by decide +kernel))) rfl
theorem wm_X12_readsFactor : Cond.instanceMethod yX12_readsFactor ∈ lw_ok := wd_1735
theorem wd_75 : Cond.selects "UtilityBoardModel" ⟨"UtilityBoardModel", "readsFactor", "()Z"⟩ ⟨"UtilityBoardModel", "readsFactor", "()Z"⟩ ∈ lw_ok := lw_ok_mem (List.mem_append_left _ (List.mem_of_getElem? (i := 75) (by decide +kernel))) rfl
theorem ws_X12_readsFactor : Cond.selects yX12_readsFactor.cls yX12_readsFactor yX12_readsFactor ∈ lw_ok := wd_75
theorem wd_1733 : Cond.methodLink "UtilityBoardModel" (351 : Nat) ({ cls := "UtilityBoardModel", name := "readsFactor", desc := "()Z" } : MethodName) ∈ lw_ok := lw_ok_mem (tb_6 _ (List.mem_of_getElem? (i := 195) (by decide +kernel))) rfl
theorem cv_X12_351 : CVW RX12 351 yX12_readsFactor.cls yX12_readsFactor cX12_readsFactor 2 (some .boolean) 0 := ⟨wd_1733, wm_X12_readsFactor, ws_X12_readsFactor, wi_X12_readsFactor, wc_X12_readsFactor, wn_X12_readsFactor, wp_X12_readsFactor⟩
theorem wd_1746 : Cond.code ({ cls := "UtilityBoardModel", name := "sumSign", desc := "(I)I" } : MethodName) prog_14_method_41_code (1 : Nat) (Option.some .int) ∈ lw_ok := lw_ok_mem (tb_6 _ (List.mem_of_getElem? (i := 208) rfl)) rfl
theorem wc_X12_sumSign : Cond.code yX12_sumSign cX12_sumSign 1 (some .int) ∈ lw_ok := wd_1746
theorem wi_X12_sumSign : Cond.initialized yX12_sumSign.cls ∈ lw_ok := wd_106
theorem wn_X12_sumSign : notMH yX12_sumSign := ⟨by decide, by decide⟩
theorem wp_X12_sumSign : (parseMethodDescriptor yX12_sumSign.desc).map (fun d => d.parameters.length) = some 1 := by decide +kernel
theorem wd_1745 : Cond.static ({ cls := "UtilityBoardModel", name := "sumSign", desc := "(I)I" } : MethodName) ∈ lw_ok := lw_ok_mem (tb_6 _ (List.mem_of_getElem? (i := 207) (by decide +kernel))) rfl
theorem wt_X12_sumSign : Cond.static yX12_sumSign ∈ lw_ok := wd_1745
theorem wd_1744 : Cond.methodLink "UtilityBoardModel" (354 : Nat) ({ cls := "UtilityBoardModel", name := "sumSign", desc := "(I)I" } : MethodName) ∈ lw_ok := lw_ok_mem (tb_6 _ (List.mem_of_getElem? (i := 206) (by decide +kernel))) rfl
theorem cs_X12_354 : CSW RX12 354 yX12_sumSign cX12_sumSign 1 (some .int) 1 := ⟨wd_1744, wt_X12_sumSign, wi_X12_sumSign, wc_X12_sumSign, wn_X12_sumSign, wp_X12_sumSign⟩
theorem wd_1750 : Cond.code ({ cls := "UtilityBoardModel", name := "closesSums", desc := "(Z)V" } : MethodName) prog_14_method_42_code (2 : Nat) none ∈ lw_ok := lw_ok_mem (tb_6 _ (List.mem_of_getElem? (i := 212) rfl)) rfl
theorem wc_X12_closesSums : Cond.code yX12_closesSums cX12_closesSums 2 none ∈ lw_ok := wd_1750
theorem wi_X12_closesSums : Cond.initialized yX12_closesSums.cls ∈ lw_ok := wd_106
theorem wn_X12_closesSums : notMH yX12_closesSums := ⟨by decide, by decide⟩
theorem wp_X12_closesSums : (parseMethodDescriptor yX12_closesSums.desc).map (fun d => d.parameters.length) = some 1 := by decide +kernel
theorem wd_1749 : Cond.instanceMethod ({ cls := "UtilityBoardModel", name := "closesSums", desc := "(Z)V" } : MethodName) ∈ lw_ok := lw_ok_mem (tb_6 _ (List.mem_of_getElem? (i := 211) (by decide +kernel))) rfl
theorem wm_X12_closesSums : Cond.instanceMethod yX12_closesSums ∈ lw_ok := wd_1749
theorem wd_77 : Cond.selects "UtilityBoardModel" ⟨"UtilityBoardModel", "closesSums", "(Z)V"⟩ ⟨"UtilityBoardModel", "closesSums", "(Z)V"⟩ ∈ lw_ok := lw_ok_mem (List.mem_append_left _ (List.mem_of_getElem? (i := 77) (by decide +kernel))) rfl
theorem ws_X12_closesSums : Cond.selects yX12_closesSums.cls yX12_closesSums yX12_closesSums ∈ lw_ok := wd_77
theorem wd_1747 : Cond.methodLink "UtilityBoardModel" (357 : Nat) ({ cls := "UtilityBoardModel", name := "closesSums", desc := "(Z)V" } : MethodName) ∈ lw_ok := lw_ok_mem (tb_6 _ (List.mem_of_getElem? (i := 209) (by decide +kernel))) rfl
theorem cv_X12_357 : CVW RX12 357 yX12_closesSums.cls yX12_closesSums cX12_closesSums 2 none 1 := ⟨wd_1747, wm_X12_closesSums, ws_X12_closesSums, wi_X12_closesSums, wc_X12_closesSums, wn_X12_closesSums, wp_X12_closesSums⟩
theorem wd_1758 : Cond.code ({ cls := "UtilityBoardModel", name := "hasOpenSum", desc := "(I)Z" } : MethodName) prog_14_method_44_code (3 : Nat) (Option.some .boolean) ∈ lw_ok := lw_ok_mem (tb_6 _ (List.mem_of_getElem? (i := 220) rfl)) rfl
theorem wc_X12_hasOpenSum : Cond.code yX12_hasOpenSum cX12_hasOpenSum 3 (some .boolean) ∈ lw_ok := wd_1758
theorem wi_X12_hasOpenSum : Cond.initialized yX12_hasOpenSum.cls ∈ lw_ok := wd_106
theorem wn_X12_hasOpenSum : notMH yX12_hasOpenSum := ⟨by decide, by decide⟩
theorem wp_X12_hasOpenSum : (parseMethodDescriptor yX12_hasOpenSum.desc).map (fun d => d.parameters.length) = some 1 := by decide +kernel
theorem wd_1757 : Cond.instanceMethod ({ cls := "UtilityBoardModel", name := "hasOpenSum", desc := "(I)Z" } : MethodName) ∈ lw_ok := lw_ok_mem (tb_6 _ (List.mem_of_getElem? (i := 219) (by decide +kernel))) rfl
theorem wm_X12_hasOpenSum : Cond.instanceMethod yX12_hasOpenSum ∈ lw_ok := wd_1757
theorem wd_79 : Cond.selects "UtilityBoardModel" ⟨"UtilityBoardModel", "hasOpenSum", "(I)Z"⟩ ⟨"UtilityBoardModel", "hasOpenSum", "(I)Z"⟩ ∈ lw_ok := lw_ok_mem (List.mem_append_left _ (List.mem_of_getElem? (i := 79) (by decide +kernel))) rfl
theorem ws_X12_hasOpenSum : Cond.selects yX12_hasOpenSum.cls yX12_hasOpenSum yX12_hasOpenSum ∈ lw_ok := wd_79
theorem wd_1755 : Cond.methodLink "UtilityBoardModel" (361 : Nat) ({ cls := "UtilityBoardModel", name := "hasOpenSum", desc := "(I)Z" } : MethodName) ∈ lw_ok := lw_ok_mem (tb_6 _ (List.mem_of_getElem? (i := 217) (by decide +kernel))) rfl
theorem cv_X12_361 : CVW RX12 361 yX12_hasOpenSum.cls yX12_hasOpenSum cX12_hasOpenSum 3 (some .boolean) 1 := ⟨wd_1755, wm_X12_hasOpenSum, ws_X12_hasOpenSum, wi_X12_hasOpenSum, wc_X12_hasOpenSum, wn_X12_hasOpenSum, wp_X12_hasOpenSum⟩
theorem wd_1732 : Cond.code ({ cls := "UtilityBoardModel", name := "readsSum", desc := "()Z" } : MethodName) prog_14_method_45_code (3 : Nat) (Option.some .boolean) ∈ lw_ok := lw_ok_mem (tb_6 _ (List.mem_of_getElem? (i := 194) rfl)) rfl
theorem wc_X12_readsSum : Cond.code yX12_readsSum cX12_readsSum 3 (some .boolean) ∈ lw_ok := wd_1732
theorem wi_X12_readsSum : Cond.initialized yX12_readsSum.cls ∈ lw_ok := wd_106
theorem wn_X12_readsSum : notMH yX12_readsSum := ⟨by decide, by decide⟩
theorem wp_X12_readsSum : (parseMethodDescriptor yX12_readsSum.desc).map (fun d => d.parameters.length) = some 0 := by decide +kernel
theorem wd_1731 : Cond.instanceMethod ({ cls := "UtilityBoardModel", name := "readsSum", desc := "()Z" } : MethodName) ∈ lw_ok := lw_ok_mem (tb_6 _ (List.mem_of_getElem? (i := 193) (by decide +kernel))) rfl
theorem wm_X12_readsSum : Cond.instanceMethod yX12_readsSum ∈ lw_ok := wd_1731
theorem wd_74 : Cond.selects "UtilityBoardModel" ⟨"UtilityBoardModel", "readsSum", "()Z"⟩ ⟨"UtilityBoardModel", "readsSum", "()Z"⟩ ∈ lw_ok := lw_ok_mem (List.mem_append_left _ (List.mem_of_getElem? (i := 74) (by decide +kernel))) rfl
theorem ws_X12_readsSum : Cond.selects yX12_readsSum.cls yX12_readsSum yX12_readsSum ∈ lw_ok := wd_74
theorem wd_1729 : Cond.methodLink "UtilityBoardModel" (364 : Nat) ({ cls := "UtilityBoardModel", name := "readsSum", desc := "()Z" } : MethodName) ∈ lw_ok := lw_ok_mem (tb_6 _ (List.mem_of_getElem? (i := 191) (by decide +kernel))) rfl
theorem cv_X12_364 : CVW RX12 364 yX12_readsSum.cls yX12_readsSum cX12_readsSum 3 (some .boolean) 0 := ⟨wd_1729, wm_X12_readsSum, ws_X12_readsSum, wi_X12_readsSum, wc_X12_readsSum, wn_X12_readsSum, wp_X12_readsSum⟩
theorem wd_1762 : Cond.code ({ cls := "UtilityBoardModel", name := "endsPiece", desc := "()V" } : MethodName) prog_14_method_46_code (1 : Nat) none ∈ lw_ok := lw_ok_mem (tb_6 _ (List.mem_of_getElem? (i := 224) rfl)) rfl
theorem wc_X12_endsPiece : Cond.code yX12_endsPiece cX12_endsPiece 1 none ∈ lw_ok := wd_1762
theorem wi_X12_endsPiece : Cond.initialized yX12_endsPiece.cls ∈ lw_ok := wd_106
theorem wn_X12_endsPiece : notMH yX12_endsPiece := ⟨by decide, by decide⟩
theorem wp_X12_endsPiece : (parseMethodDescriptor yX12_endsPiece.desc).map (fun d => d.parameters.length) = some 0 := by decide +kernel
theorem wd_1761 : Cond.instanceMethod ({ cls := "UtilityBoardModel", name := "endsPiece", desc := "()V" } : MethodName) ∈ lw_ok := lw_ok_mem (tb_6 _ (List.mem_of_getElem? (i := 223) (by decide +kernel))) rfl
theorem wm_X12_endsPiece : Cond.instanceMethod yX12_endsPiece ∈ lw_ok := wd_1761
theorem wd_80 : Cond.selects "UtilityBoardModel" ⟨"UtilityBoardModel", "endsPiece", "()V"⟩ ⟨"UtilityBoardModel", "endsPiece", "()V"⟩ ∈ lw_ok := lw_ok_mem (List.mem_append_left _ (List.mem_of_getElem? (i := 80) (by decide +kernel))) rfl
theorem ws_X12_endsPiece : Cond.selects yX12_endsPiece.cls yX12_endsPiece yX12_endsPiece ∈ lw_ok := wd_80
theorem wd_1759 : Cond.methodLink "UtilityBoardModel" (367 : Nat) ({ cls := "UtilityBoardModel", name := "endsPiece", desc := "()V" } : MethodName) ∈ lw_ok := lw_ok_mem (tb_6 _ (List.mem_of_getElem? (i := 221) (by decide +kernel))) rfl
theorem cv_X12_367 : CVW RX12 367 yX12_endsPiece.cls yX12_endsPiece cX12_endsPiece 1 none 0 := ⟨wd_1759, wm_X12_endsPiece, ws_X12_endsPiece, wi_X12_endsPiece, wc_X12_endsPiece, wn_X12_endsPiece, wp_X12_endsPiece⟩
theorem wd_1728 : Cond.code ({ cls := "UtilityBoardModel", name := "readsCompared", desc := "()Z" } : MethodName) prog_14_method_49_code (2 : Nat) (Option.some .boolean) ∈ lw_ok := lw_ok_mem (tb_6 _ (List.mem_of_getElem? (i := 190) rfl)) rfl
theorem wc_X12_readsCompared : Cond.code yX12_readsCompared cX12_readsCompared 2 (some .boolean) ∈ lw_ok := wd_1728
theorem wi_X12_readsCompared : Cond.initialized yX12_readsCompared.cls ∈ lw_ok := wd_106
theorem wn_X12_readsCompared : notMH yX12_readsCompared := ⟨by decide, by decide⟩
theorem wp_X12_readsCompared : (parseMethodDescriptor yX12_readsCompared.desc).map (fun d => d.parameters.length) = some 0 := by decide +kernel
theorem wd_1727 : Cond.instanceMethod ({ cls := "UtilityBoardModel", name := "readsCompared", desc := "()Z" } : MethodName) ∈ lw_ok := lw_ok_mem (tb_6 _ (List.mem_of_getElem? (i := 189) (by decide +kernel))) rfl
theorem wm_X12_readsCompared : Cond.instanceMethod yX12_readsCompared ∈ lw_ok := wd_1727
theorem wd_73 : Cond.selects "UtilityBoardModel" ⟨"UtilityBoardModel", "readsCompared", "()Z"⟩ ⟨"UtilityBoardModel", "readsCompared", "()Z"⟩ ∈ lw_ok := lw_ok_mem (List.mem_append_left _ (List.mem_of_getElem? (i := 73) (by decide +kernel))) rfl
theorem ws_X12_readsCompared : Cond.selects yX12_readsCompared.cls yX12_readsCompared yX12_readsCompared ∈ lw_ok := wd_73
theorem wd_1725 : Cond.methodLink "UtilityBoardModel" (370 : Nat) ({ cls := "UtilityBoardModel", name := "readsCompared", desc := "()Z" } : MethodName) ∈ lw_ok := lw_ok_mem (tb_6 _ (List.mem_of_getElem? (i := 187) (by decide +kernel))) rfl
theorem cv_X12_370 : CVW RX12 370 yX12_readsCompared.cls yX12_readsCompared cX12_readsCompared 2 (some .boolean) 0 := ⟨wd_1725, wm_X12_readsCompared, ws_X12_readsCompared, wi_X12_readsCompared, wc_X12_readsCompared, wn_X12_readsCompared, wp_X12_readsCompared⟩
theorem wd_1766 : Cond.code ({ cls := "UtilityBoardModel", name := "lands", desc := "(Z)V" } : MethodName) prog_14_method_47_code (3 : Nat) none ∈ lw_ok := lw_ok_mem (tb_6 _ (List.mem_of_getElem? (i := 228) rfl)) rfl
theorem wc_X12_lands : Cond.code yX12_lands cX12_lands 3 none ∈ lw_ok := wd_1766
theorem wi_X12_lands : Cond.initialized yX12_lands.cls ∈ lw_ok := wd_106
theorem wn_X12_lands : notMH yX12_lands := ⟨by decide, by decide⟩
theorem wp_X12_lands : (parseMethodDescriptor yX12_lands.desc).map (fun d => d.parameters.length) = some 1 := by decide +kernel
theorem wd_1765 : Cond.instanceMethod ({ cls := "UtilityBoardModel", name := "lands", desc := "(Z)V" } : MethodName) ∈ lw_ok := lw_ok_mem (tb_6 _ (List.mem_of_getElem? (i := 227) (by decide +kernel))) rfl
theorem wm_X12_lands : Cond.instanceMethod yX12_lands ∈ lw_ok := wd_1765
theorem wd_81 : Cond.selects "UtilityBoardModel" ⟨"UtilityBoardModel", "lands", "(Z)V"⟩ ⟨"UtilityBoardModel", "lands", "(Z)V"⟩ ∈ lw_ok := lw_ok_mem (List.mem_append_left _ (List.mem_of_getElem? (i := 81) (by decide +kernel))) rfl
theorem ws_X12_lands : Cond.selects yX12_lands.cls yX12_lands yX12_lands ∈ lw_ok := wd_81
theorem wd_1763 : Cond.methodLink "UtilityBoardModel" (373 : Nat) ({ cls := "UtilityBoardModel", name := "lands", desc := "(Z)V" } : MethodName) ∈ lw_ok := lw_ok_mem (tb_6 _ (List.mem_of_getElem? (i := 225) (by decide +kernel))) rfl
theorem cv_X12_373 : CVW RX12 373 yX12_lands.cls yX12_lands cX12_lands 3 none 1 := ⟨wd_1763, wm_X12_lands, ws_X12_lands, wi_X12_lands, wc_X12_lands, wn_X12_lands, wp_X12_lands⟩
theorem wd_1770 : Cond.code ({ cls := "UtilityBoardModel", name := "jumps", desc := "(I)V" } : MethodName) prog_14_method_48_code (2 : Nat) none ∈ lw_ok := lw_ok_mem (tb_6 _ (List.mem_of_getElem? (i := 232) rfl)) rfl
theorem wc_X12_jumps : Cond.code yX12_jumps cX12_jumps 2 none ∈ lw_ok := wd_1770
theorem wi_X12_jumps : Cond.initialized yX12_jumps.cls ∈ lw_ok := wd_106
theorem wn_X12_jumps : notMH yX12_jumps := ⟨by decide, by decide⟩
theorem wp_X12_jumps : (parseMethodDescriptor yX12_jumps.desc).map (fun d => d.parameters.length) = some 1 := by decide +kernel
theorem wd_1769 : Cond.instanceMethod ({ cls := "UtilityBoardModel", name := "jumps", desc := "(I)V" } : MethodName) ∈ lw_ok := lw_ok_mem (tb_6 _ (List.mem_of_getElem? (i := 231) (by decide +kernel))) rfl
theorem wm_X12_jumps : Cond.instanceMethod yX12_jumps ∈ lw_ok := wd_1769
theorem wd_82 : Cond.selects "UtilityBoardModel" ⟨"UtilityBoardModel", "jumps", "(I)V"⟩ ⟨"UtilityBoardModel", "jumps", "(I)V"⟩ ∈ lw_ok := lw_ok_mem (List.mem_append_left _ (List.mem_of_getElem? (i := 82) (by decide +kernel))) rfl
theorem ws_X12_jumps : Cond.selects yX12_jumps.cls yX12_jumps yX12_jumps ∈ lw_ok := wd_82
theorem wd_1767 : Cond.methodLink "UtilityBoardModel" (376 : Nat) ({ cls := "UtilityBoardModel", name := "jumps", desc := "(I)V" } : MethodName) ∈ lw_ok := lw_ok_mem (tb_6 _ (List.mem_of_getElem? (i := 229) (by decide +kernel))) rfl
theorem cv_X12_376 : CVW RX12 376 yX12_jumps.cls yX12_jumps cX12_jumps 2 none 1 := ⟨wd_1767, wm_X12_jumps, ws_X12_jumps, wi_X12_jumps, wc_X12_jumps, wn_X12_jumps, wp_X12_jumps⟩
theorem wd_1698 : Cond.code ({ cls := "UtilityBoardModel", name := "isLetter", desc := "(I)Z" } : MethodName) prog_14_method_51_code (1 : Nat) (Option.some .boolean) ∈ lw_ok := lw_ok_mem (tb_6 _ (List.mem_of_getElem? (i := 160) rfl)) rfl
theorem wc_X12_isLetter : Cond.code yX12_isLetter cX12_isLetter 1 (some .boolean) ∈ lw_ok := wd_1698
theorem wi_X12_isLetter : Cond.initialized yX12_isLetter.cls ∈ lw_ok := wd_106
theorem wn_X12_isLetter : notMH yX12_isLetter := ⟨by decide, by decide⟩
theorem wp_X12_isLetter : (parseMethodDescriptor yX12_isLetter.desc).map (fun d => d.parameters.length) = some 1 := by decide +kernel
theorem wd_1697 : Cond.static ({ cls := "UtilityBoardModel", name := "isLetter", desc := "(I)Z" } : MethodName) ∈ lw_ok := lw_ok_mem (tb_6 _ (List.mem_of_getElem? (i := 159) (by decide +kernel))) rfl
theorem wt_X12_isLetter : Cond.static yX12_isLetter ∈ lw_ok := wd_1697
theorem wd_1696 : Cond.methodLink "UtilityBoardModel" (379 : Nat) ({ cls := "UtilityBoardModel", name := "isLetter", desc := "(I)Z" } : MethodName) ∈ lw_ok := lw_ok_mem (tb_6 _ (List.mem_of_getElem? (i := 158) (by decide +kernel))) rfl
theorem cs_X12_379 : CSW RX12 379 yX12_isLetter cX12_isLetter 1 (some .boolean) 1 := ⟨wd_1696, wt_X12_isLetter, wi_X12_isLetter, wc_X12_isLetter, wn_X12_isLetter, wp_X12_isLetter⟩
theorem wd_1715 : Cond.code ({ cls := "UtilityBoardModel", name := "takes", desc := "(I)Z" } : MethodName) prog_14_method_35_code (2 : Nat) (Option.some .boolean) ∈ lw_ok := lw_ok_mem (tb_6 _ (List.mem_of_getElem? (i := 177) rfl)) rfl
theorem wc_X12_takes : Cond.code yX12_takes cX12_takes 2 (some .boolean) ∈ lw_ok := wd_1715
theorem wi_X12_takes : Cond.initialized yX12_takes.cls ∈ lw_ok := wd_106
theorem wn_X12_takes : notMH yX12_takes := ⟨by decide, by decide⟩
theorem wp_X12_takes : (parseMethodDescriptor yX12_takes.desc).map (fun d => d.parameters.length) = some 1 := by decide +kernel
theorem wd_1714 : Cond.instanceMethod ({ cls := "UtilityBoardModel", name := "takes", desc := "(I)Z" } : MethodName) ∈ lw_ok := lw_ok_mem (tb_6 _ (List.mem_of_getElem? (i := 176) (by decide +kernel))) rfl
theorem wm_X12_takes : Cond.instanceMethod yX12_takes ∈ lw_ok := wd_1714
theorem wd_70 : Cond.selects "UtilityBoardModel" ⟨"UtilityBoardModel", "takes", "(I)Z"⟩ ⟨"UtilityBoardModel", "takes", "(I)Z"⟩ ∈ lw_ok := lw_ok_mem (List.mem_append_left _ (List.mem_of_getElem? (i := 70) (by decide +kernel))) rfl
theorem ws_X12_takes : Cond.selects yX12_takes.cls yX12_takes yX12_takes ∈ lw_ok := wd_70
theorem wd_1712 : Cond.methodLink "UtilityBoardModel" (385 : Nat) ({ cls := "UtilityBoardModel", name := "takes", desc := "(I)Z" } : MethodName) ∈ lw_ok := lw_ok_mem (tb_6 _ (List.mem_of_getElem? (i := 174) (by decide +kernel))) rfl
theorem cv_X12_385 : CVW RX12 385 yX12_takes.cls yX12_takes cX12_takes 2 (some .boolean) 1 := ⟨wd_1712, wm_X12_takes, ws_X12_takes, wi_X12_takes, wc_X12_takes, wn_X12_takes, wp_X12_takes⟩
theorem wd_1719 : Cond.code ({ cls := "UtilityBoardModel", name := "readsCondition", desc := "()Z" } : MethodName) prog_14_method_50_code (1 : Nat) (Option.some .boolean) ∈ lw_ok := lw_ok_mem (tb_6 _ (List.mem_of_getElem? (i := 181) rfl)) rfl
theorem wc_X12_readsCondition : Cond.code yX12_readsCondition cX12_readsCondition 1 (some .boolean) ∈ lw_ok := wd_1719
theorem wi_X12_readsCondition : Cond.initialized yX12_readsCondition.cls ∈ lw_ok := wd_106
theorem wn_X12_readsCondition : notMH yX12_readsCondition := ⟨by decide, by decide⟩
theorem wp_X12_readsCondition : (parseMethodDescriptor yX12_readsCondition.desc).map (fun d => d.parameters.length) = some 0 := by decide +kernel
theorem wd_1718 : Cond.instanceMethod ({ cls := "UtilityBoardModel", name := "readsCondition", desc := "()Z" } : MethodName) ∈ lw_ok := lw_ok_mem (tb_6 _ (List.mem_of_getElem? (i := 180) (by decide +kernel))) rfl
theorem wm_X12_readsCondition : Cond.instanceMethod yX12_readsCondition ∈ lw_ok := wd_1718
theorem wd_71 : Cond.selects "UtilityBoardModel" ⟨"UtilityBoardModel", "readsCondition", "()Z"⟩ ⟨"UtilityBoardModel", "readsCondition", "()Z"⟩ ∈ lw_ok := lw_ok_mem (List.mem_append_left _ (List.mem_of_getElem? (i := 71) (by decide +kernel))) rfl
theorem ws_X12_readsCondition : Cond.selects yX12_readsCondition.cls yX12_readsCondition yX12_readsCondition ∈ lw_ok := wd_71
theorem wd_1716 : Cond.methodLink "UtilityBoardModel" (388 : Nat) ({ cls := "UtilityBoardModel", name := "readsCondition", desc := "()Z" } : MethodName) ∈ lw_ok := lw_ok_mem (tb_6 _ (List.mem_of_getElem? (i := 178) (by decide +kernel))) rfl
theorem cv_X12_388 : CVW RX12 388 yX12_readsCondition.cls yX12_readsCondition cX12_readsCondition 1 (some .boolean) 0 := ⟨wd_1716, wm_X12_readsCondition, ws_X12_readsCondition, wi_X12_readsCondition, wc_X12_readsCondition, wn_X12_readsCondition, wp_X12_readsCondition⟩
theorem wd_1687 : Cond.code ({ cls := "UtilityBoardModel", name := "isWeek", desc := "(I)Z" } : MethodName) prog_14_method_3_code (1 : Nat) (Option.some .boolean) ∈ lw_ok := lw_ok_mem (tb_6 _ (List.mem_of_getElem? (i := 149) rfl)) rfl
theorem wc_X12_isWeek : Cond.code yX12_isWeek cX12_isWeek 1 (some .boolean) ∈ lw_ok := wd_1687
theorem wi_X12_isWeek : Cond.initialized yX12_isWeek.cls ∈ lw_ok := wd_106
theorem wn_X12_isWeek : notMH yX12_isWeek := ⟨by decide, by decide⟩
theorem wp_X12_isWeek : (parseMethodDescriptor yX12_isWeek.desc).map (fun d => d.parameters.length) = some 1 := by decide +kernel
theorem wd_1686 : Cond.static ({ cls := "UtilityBoardModel", name := "isWeek", desc := "(I)Z" } : MethodName) ∈ lw_ok := lw_ok_mem (tb_6 _ (List.mem_of_getElem? (i := 148) (by decide +kernel))) rfl
theorem wt_X12_isWeek : Cond.static yX12_isWeek ∈ lw_ok := wd_1686
theorem wd_1685 : Cond.methodLink "UtilityBoardModel" (391 : Nat) ({ cls := "UtilityBoardModel", name := "isWeek", desc := "(I)Z" } : MethodName) ∈ lw_ok := lw_ok_mem (tb_6 _ (List.mem_of_getElem? (i := 147) (by decide +kernel))) rfl
theorem cs_X12_391 : CSW RX12 391 yX12_isWeek cX12_isWeek 1 (some .boolean) 1 := ⟨wd_1685, wt_X12_isWeek, wi_X12_isWeek, wc_X12_isWeek, wn_X12_isWeek, wp_X12_isWeek⟩
theorem wd_1691 : Cond.code ({ cls := "UtilityBoardModel", name := "readsClause", desc := "()Z" } : MethodName) prog_14_method_52_code (3 : Nat) (Option.some .boolean) ∈ lw_ok := lw_ok_mem (tb_6 _ (List.mem_of_getElem? (i := 153) rfl)) rfl
theorem wc_X12_readsClause : Cond.code yX12_readsClause cX12_readsClause 3 (some .boolean) ∈ lw_ok := wd_1691
theorem wi_X12_readsClause : Cond.initialized yX12_readsClause.cls ∈ lw_ok := wd_106
theorem wn_X12_readsClause : notMH yX12_readsClause := ⟨by decide, by decide⟩
theorem wp_X12_readsClause : (parseMethodDescriptor yX12_readsClause.desc).map (fun d => d.parameters.length) = some 0 := by decide +kernel
theorem wd_1690 : Cond.instanceMethod ({ cls := "UtilityBoardModel", name := "readsClause", desc := "()Z" } : MethodName) ∈ lw_ok := lw_ok_mem (tb_6 _ (List.mem_of_getElem? (i := 152) (by decide +kernel))) rfl
theorem wm_X12_readsClause : Cond.instanceMethod yX12_readsClause ∈ lw_ok := wd_1690
theorem wd_65 : Cond.selects "UtilityBoardModel" ⟨"UtilityBoardModel", "readsClause", "()Z"⟩ ⟨"UtilityBoardModel", "readsClause", "()Z"⟩ ∈ lw_ok := lw_ok_mem (List.mem_append_left _ (List.mem_of_getElem? (i := 65) (by decide +kernel))) rfl
theorem ws_X12_readsClause : Cond.selects yX12_readsClause.cls yX12_readsClause yX12_readsClause ∈ lw_ok := wd_65
theorem wd_1688 : Cond.methodLink "UtilityBoardModel" (397 : Nat) ({ cls := "UtilityBoardModel", name := "readsClause", desc := "()Z" } : MethodName) ∈ lw_ok := lw_ok_mem (tb_6 _ (List.mem_of_getElem? (i := 150) (by decide +kernel))) rfl
theorem cv_X12_397 : CVW RX12 397 yX12_readsClause.cls yX12_readsClause cX12_readsClause 3 (some .boolean) 0 := ⟨wd_1688, wm_X12_readsClause, ws_X12_readsClause, wi_X12_readsClause, wc_X12_readsClause, wn_X12_readsClause, wp_X12_readsClause⟩
theorem wd_1790 : Cond.code ({ cls := "UtilityBoardModel", name := "isForce", desc := "(III)Z" } : MethodName) prog_14_method_54_code (4 : Nat) (Option.some .boolean) ∈ lw_ok := lw_ok_mem (tb_7 _ (List.mem_of_getElem? (i := 12) rfl)) rfl
theorem wc_X12_isForce : Cond.code yX12_isForce cX12_isForce 4 (some .boolean) ∈ lw_ok := wd_1790
theorem wi_X12_isForce : Cond.initialized yX12_isForce.cls ∈ lw_ok := wd_106
theorem wn_X12_isForce : notMH yX12_isForce := ⟨by decide, by decide⟩
theorem wp_X12_isForce : (parseMethodDescriptor yX12_isForce.desc).map (fun d => d.parameters.length) = some 3 := by decide +kernel
theorem wd_1789 : Cond.instanceMethod ({ cls := "UtilityBoardModel", name := "isForce", desc := "(III)Z" } : MethodName) ∈ lw_ok := lw_ok_mem (tb_7 _ (List.mem_of_getElem? (i := 11) (by decide +kernel))) rfl
theorem wm_X12_isForce : Cond.instanceMethod yX12_isForce ∈ lw_ok := wd_1789
theorem wd_86 : Cond.selects "UtilityBoardModel" ⟨"UtilityBoardModel", "isForce", "(III)Z"⟩ ⟨"UtilityBoardModel", "isForce", "(III)Z"⟩ ∈ lw_ok := lw_ok_mem (List.mem_append_left _ (List.mem_of_getElem? (i := 86) (by decide +kernel))) rfl
theorem ws_X12_isForce : Cond.selects yX12_isForce.cls yX12_isForce yX12_isForce ∈ lw_ok := wd_86
theorem wd_1787 : Cond.methodLink "UtilityBoardModel" (403 : Nat) ({ cls := "UtilityBoardModel", name := "isForce", desc := "(III)Z" } : MethodName) ∈ lw_ok := lw_ok_mem (tb_7 _ (List.mem_of_getElem? (i := 9) (by decide +kernel))) rfl
theorem cv_X12_403 : CVW RX12 403 yX12_isForce.cls yX12_isForce cX12_isForce 4 (some .boolean) 3 := ⟨wd_1787, wm_X12_isForce, ws_X12_isForce, wi_X12_isForce, wc_X12_isForce, wn_X12_isForce, wp_X12_isForce⟩
theorem wd_1801 : Cond.code ({ cls := "UtilityBoardModel", name := "reckon", desc := "(III)I" } : MethodName) prog_14_method_57_code (3 : Nat) (Option.some .int) ∈ lw_ok := lw_ok_mem (tb_7 _ (List.mem_of_getElem? (i := 23) rfl)) rfl
theorem wc_X12_reckon : Cond.code yX12_reckon cX12_reckon 3 (some .int) ∈ lw_ok := wd_1801
theorem wi_X12_reckon : Cond.initialized yX12_reckon.cls ∈ lw_ok := wd_106
theorem wn_X12_reckon : notMH yX12_reckon := ⟨by decide, by decide⟩
theorem wp_X12_reckon : (parseMethodDescriptor yX12_reckon.desc).map (fun d => d.parameters.length) = some 3 := by decide +kernel
theorem wd_1800 : Cond.static ({ cls := "UtilityBoardModel", name := "reckon", desc := "(III)I" } : MethodName) ∈ lw_ok := lw_ok_mem (tb_7 _ (List.mem_of_getElem? (i := 22) (by decide +kernel))) rfl
theorem wt_X12_reckon : Cond.static yX12_reckon ∈ lw_ok := wd_1800
theorem wd_1799 : Cond.methodLink "UtilityBoardModel" (406 : Nat) ({ cls := "UtilityBoardModel", name := "reckon", desc := "(III)I" } : MethodName) ∈ lw_ok := lw_ok_mem (tb_7 _ (List.mem_of_getElem? (i := 21) (by decide +kernel))) rfl
theorem cs_X12_406 : CSW RX12 406 yX12_reckon cX12_reckon 3 (some .int) 3 := ⟨wd_1799, wt_X12_reckon, wi_X12_reckon, wc_X12_reckon, wn_X12_reckon, wp_X12_reckon⟩
theorem wd_1786 : Cond.code ({ cls := "UtilityBoardModel", name := "strikes", desc := "(II)V" } : MethodName) prog_14_method_55_code (6 : Nat) none ∈ lw_ok := lw_ok_mem (tb_7 _ (List.mem_of_getElem? (i := 8) rfl)) rfl
theorem wc_X12_strikes : Cond.code yX12_strikes cX12_strikes 6 none ∈ lw_ok := wd_1786
theorem wi_X12_strikes : Cond.initialized yX12_strikes.cls ∈ lw_ok := wd_106
theorem wn_X12_strikes : notMH yX12_strikes := ⟨by decide, by decide⟩
theorem wp_X12_strikes : (parseMethodDescriptor yX12_strikes.desc).map (fun d => d.parameters.length) = some 2 := by decide +kernel
theorem wd_1785 : Cond.instanceMethod ({ cls := "UtilityBoardModel", name := "strikes", desc := "(II)V" } : MethodName) ∈ lw_ok := lw_ok_mem (tb_7 _ (List.mem_of_getElem? (i := 7) (by decide +kernel))) rfl
theorem wm_X12_strikes : Cond.instanceMethod yX12_strikes ∈ lw_ok := wd_1785
theorem wd_85 : Cond.selects "UtilityBoardModel" ⟨"UtilityBoardModel", "strikes", "(II)V"⟩ ⟨"UtilityBoardModel", "strikes", "(II)V"⟩ ∈ lw_ok := lw_ok_mem (List.mem_append_left _ (List.mem_of_getElem? (i := 85) (by decide +kernel))) rfl
theorem ws_X12_strikes : Cond.selects yX12_strikes.cls yX12_strikes yX12_strikes ∈ lw_ok := wd_85
theorem wd_1783 : Cond.methodLink "UtilityBoardModel" (410 : Nat) ({ cls := "UtilityBoardModel", name := "strikes", desc := "(II)V" } : MethodName) ∈ lw_ok := lw_ok_mem (tb_7 _ (List.mem_of_getElem? (i := 5) (by decide +kernel))) rfl
theorem cv_X12_410 : CVW RX12 410 yX12_strikes.cls yX12_strikes cX12_strikes 6 none 2 := ⟨wd_1783, wm_X12_strikes, ws_X12_strikes, wi_X12_strikes, wc_X12_strikes, wn_X12_strikes, wp_X12_strikes⟩
theorem wd_1794 : Cond.code ({ cls := "UtilityBoardModel", name := "setsFacts", desc := "(III)V" } : MethodName) prog_14_method_56_code (5 : Nat) none ∈ lw_ok := lw_ok_mem (tb_7 _ (List.mem_of_getElem? (i := 16) rfl)) rfl
theorem wc_X12_setsFacts : Cond.code yX12_setsFacts cX12_setsFacts 5 none ∈ lw_ok := wd_1794
theorem wi_X12_setsFacts : Cond.initialized yX12_setsFacts.cls ∈ lw_ok := wd_106
theorem wn_X12_setsFacts : notMH yX12_setsFacts := ⟨by decide, by decide⟩
theorem wp_X12_setsFacts : (parseMethodDescriptor yX12_setsFacts.desc).map (fun d => d.parameters.length) = some 3 := by decide +kernel
theorem wd_1793 : Cond.instanceMethod ({ cls := "UtilityBoardModel", name := "setsFacts", desc := "(III)V" } : MethodName) ∈ lw_ok := lw_ok_mem (tb_7 _ (List.mem_of_getElem? (i := 15) (by decide +kernel))) rfl
theorem wm_X12_setsFacts : Cond.instanceMethod yX12_setsFacts ∈ lw_ok := wd_1793
theorem wd_87 : Cond.selects "UtilityBoardModel" ⟨"UtilityBoardModel", "setsFacts", "(III)V"⟩ ⟨"UtilityBoardModel", "setsFacts", "(III)V"⟩ ∈ lw_ok := lw_ok_mem (List.mem_append_left _ (List.mem_of_getElem? (i := 87) (by decide +kernel))) rfl
theorem ws_X12_setsFacts : Cond.selects yX12_setsFacts.cls yX12_setsFacts yX12_setsFacts ∈ lw_ok := wd_87
theorem wd_1791 : Cond.methodLink "UtilityBoardModel" (413 : Nat) ({ cls := "UtilityBoardModel", name := "setsFacts", desc := "(III)V" } : MethodName) ∈ lw_ok := lw_ok_mem (tb_7 _ (List.mem_of_getElem? (i := 13) (by decide +kernel))) rfl
theorem cv_X12_413 : CVW RX12 413 yX12_setsFacts.cls yX12_setsFacts cX12_setsFacts 5 none 3 := ⟨wd_1791, wm_X12_setsFacts, ws_X12_setsFacts, wi_X12_setsFacts, wc_X12_setsFacts, wn_X12_setsFacts, wp_X12_setsFacts⟩
theorem wd_1798 : Cond.code ({ cls := "UtilityBoardModel", name := "holds", desc := "(I)Z" } : MethodName) prog_14_method_58_code (7 : Nat) (Option.some .boolean) ∈ lw_ok := lw_ok_mem (tb_7 _ (List.mem_of_getElem? (i := 20) rfl)) rfl
theorem wc_X12_holds : Cond.code yX12_holds cX12_holds 7 (some .boolean) ∈ lw_ok := wd_1798
theorem wi_X12_holds : Cond.initialized yX12_holds.cls ∈ lw_ok := wd_106
theorem wn_X12_holds : notMH yX12_holds := ⟨by decide, by decide⟩
theorem wp_X12_holds : (parseMethodDescriptor yX12_holds.desc).map (fun d => d.parameters.length) = some 1 := by decide +kernel
theorem wd_1797 : Cond.instanceMethod ({ cls := "UtilityBoardModel", name := "holds", desc := "(I)Z" } : MethodName) ∈ lw_ok := lw_ok_mem (tb_7 _ (List.mem_of_getElem? (i := 19) (by decide +kernel))) rfl
theorem wm_X12_holds : Cond.instanceMethod yX12_holds ∈ lw_ok := wd_1797
theorem wd_88 : Cond.selects "UtilityBoardModel" ⟨"UtilityBoardModel", "holds", "(I)Z"⟩ ⟨"UtilityBoardModel", "holds", "(I)Z"⟩ ∈ lw_ok := lw_ok_mem (List.mem_append_left _ (List.mem_of_getElem? (i := 88) (by decide +kernel))) rfl
theorem ws_X12_holds : Cond.selects yX12_holds.cls yX12_holds yX12_holds ∈ lw_ok := wd_88
theorem wd_1795 : Cond.methodLink "UtilityBoardModel" (417 : Nat) ({ cls := "UtilityBoardModel", name := "holds", desc := "(I)Z" } : MethodName) ∈ lw_ok := lw_ok_mem (tb_7 _ (List.mem_of_getElem? (i := 17) (by decide +kernel))) rfl
theorem cv_X12_417 : CVW RX12 417 yX12_holds.cls yX12_holds cX12_holds 7 (some .boolean) 1 := ⟨wd_1795, wm_X12_holds, ws_X12_holds, wi_X12_holds, wc_X12_holds, wn_X12_holds, wp_X12_holds⟩
theorem wd_1782 : Cond.code ({ cls := "UtilityBoardModel", name := "numberBy", desc := "(IIIII)I" } : MethodName) prog_14_method_59_code (9 : Nat) (Option.some .int) ∈ lw_ok := lw_ok_mem (tb_7 _ (List.mem_of_getElem? (i := 4) rfl)) rfl
theorem wc_X12_numberBy : Cond.code yX12_numberBy cX12_numberBy 9 (some .int) ∈ lw_ok := wd_1782
theorem wi_X12_numberBy : Cond.initialized yX12_numberBy.cls ∈ lw_ok := wd_106
theorem wn_X12_numberBy : notMH yX12_numberBy := ⟨by decide, by decide⟩
theorem wp_X12_numberBy : (parseMethodDescriptor yX12_numberBy.desc).map (fun d => d.parameters.length) = some 5 := by decide +kernel
theorem wd_1781 : Cond.instanceMethod ({ cls := "UtilityBoardModel", name := "numberBy", desc := "(IIIII)I" } : MethodName) ∈ lw_ok := lw_ok_mem (tb_7 _ (List.mem_of_getElem? (i := 3) (by decide +kernel))) rfl
theorem wm_X12_numberBy : Cond.instanceMethod yX12_numberBy ∈ lw_ok := wd_1781
theorem wd_84 : Cond.selects "UtilityBoardModel" ⟨"UtilityBoardModel", "numberBy", "(IIIII)I"⟩ ⟨"UtilityBoardModel", "numberBy", "(IIIII)I"⟩ ∈ lw_ok := lw_ok_mem (List.mem_append_left _ (List.mem_of_getElem? (i := 84) (by decide +kernel))) rfl
theorem ws_X12_numberBy : Cond.selects yX12_numberBy.cls yX12_numberBy yX12_numberBy ∈ lw_ok := wd_84
theorem wd_1779 : Cond.methodLink "UtilityBoardModel" (420 : Nat) ({ cls := "UtilityBoardModel", name := "numberBy", desc := "(IIIII)I" } : MethodName) ∈ lw_ok := lw_ok_mem (tb_7 _ (List.mem_of_getElem? (i := 1) (by decide +kernel))) rfl
theorem cv_X12_420 : CVW RX12 420 yX12_numberBy.cls yX12_numberBy cX12_numberBy 9 (some .int) 5 := ⟨wd_1779, wm_X12_numberBy, ws_X12_numberBy, wi_X12_numberBy, wc_X12_numberBy, wn_X12_numberBy, wp_X12_numberBy⟩
theorem wd_1778 : Cond.code ({ cls := "UtilityBoardModel", name := "orNothing", desc := "(IIIII)I" } : MethodName) prog_14_method_60_code (7 : Nat) (Option.some .int) ∈ lw_ok := lw_ok_mem (tb_7 _ (List.mem_of_getElem? (i := 0) rfl)) rfl
theorem wc_X12_orNothing : Cond.code yX12_orNothing cX12_orNothing 7 (some .int) ∈ lw_ok := wd_1778
theorem wi_X12_orNothing : Cond.initialized yX12_orNothing.cls ∈ lw_ok := wd_106
theorem wn_X12_orNothing : notMH yX12_orNothing := ⟨by decide, by decide⟩
theorem wp_X12_orNothing : (parseMethodDescriptor yX12_orNothing.desc).map (fun d => d.parameters.length) = some 5 := by decide +kernel
theorem wd_1777 : Cond.instanceMethod ({ cls := "UtilityBoardModel", name := "orNothing", desc := "(IIIII)I" } : MethodName) ∈ lw_ok := lw_ok_mem (tb_6 _ (List.mem_of_getElem? (i := 239) (by decide +kernel))) rfl
theorem wm_X12_orNothing : Cond.instanceMethod yX12_orNothing ∈ lw_ok := wd_1777
theorem wd_83 : Cond.selects "UtilityBoardModel" ⟨"UtilityBoardModel", "orNothing", "(IIIII)I"⟩ ⟨"UtilityBoardModel", "orNothing", "(IIIII)I"⟩ ∈ lw_ok := lw_ok_mem (List.mem_append_left _ (List.mem_of_getElem? (i := 83) (by decide +kernel))) rfl
theorem ws_X12_orNothing : Cond.selects yX12_orNothing.cls yX12_orNothing yX12_orNothing ∈ lw_ok := wd_83
theorem wd_1775 : Cond.methodLink "UtilityBoardModel" (430 : Nat) ({ cls := "UtilityBoardModel", name := "orNothing", desc := "(IIIII)I" } : MethodName) ∈ lw_ok := lw_ok_mem (tb_6 _ (List.mem_of_getElem? (i := 237) (by decide +kernel))) rfl
theorem cv_X12_430 : CVW RX12 430 yX12_orNothing.cls yX12_orNothing cX12_orNothing 7 (some .int) 5 := ⟨wd_1775, wm_X12_orNothing, ws_X12_orNothing, wi_X12_orNothing, wc_X12_orNothing, wn_X12_orNothing, wp_X12_orNothing⟩
theorem wd_1805 : Cond.code ({ cls := "UtilityBoardModel", name := "isSome", desc := "(IIIII)Z" } : MethodName) prog_14_method_61_code (9 : Nat) (Option.some .boolean) ∈ lw_ok := lw_ok_mem (tb_7 _ (List.mem_of_getElem? (i := 27) rfl)) rfl
theorem wc_X12_isSome : Cond.code yX12_isSome cX12_isSome 9 (some .boolean) ∈ lw_ok := wd_1805
theorem wi_X12_isSome : Cond.initialized yX12_isSome.cls ∈ lw_ok := wd_106
theorem wn_X12_isSome : notMH yX12_isSome := ⟨by decide, by decide⟩
theorem wp_X12_isSome : (parseMethodDescriptor yX12_isSome.desc).map (fun d => d.parameters.length) = some 5 := by decide +kernel
theorem wd_1804 : Cond.instanceMethod ({ cls := "UtilityBoardModel", name := "isSome", desc := "(IIIII)Z" } : MethodName) ∈ lw_ok := lw_ok_mem (tb_7 _ (List.mem_of_getElem? (i := 26) (by decide +kernel))) rfl
theorem wm_X12_isSome : Cond.instanceMethod yX12_isSome ∈ lw_ok := wd_1804
theorem wd_89 : Cond.selects "UtilityBoardModel" ⟨"UtilityBoardModel", "isSome", "(IIIII)Z"⟩ ⟨"UtilityBoardModel", "isSome", "(IIIII)Z"⟩ ∈ lw_ok := lw_ok_mem (List.mem_append_left _ (List.mem_of_getElem? (i := 89) (by decide +kernel))) rfl
theorem ws_X12_isSome : Cond.selects yX12_isSome.cls yX12_isSome yX12_isSome ∈ lw_ok := wd_89
theorem wd_1802 : Cond.methodLink "UtilityBoardModel" (433 : Nat) ({ cls := "UtilityBoardModel", name := "isSome", desc := "(IIIII)Z" } : MethodName) ∈ lw_ok := lw_ok_mem (tb_7 _ (List.mem_of_getElem? (i := 24) (by decide +kernel))) rfl
theorem cv_X12_433 : CVW RX12 433 yX12_isSome.cls yX12_isSome cX12_isSome 9 (some .boolean) 5 := ⟨wd_1802, wm_X12_isSome, ws_X12_isSome, wi_X12_isSome, wc_X12_isSome, wn_X12_isSome, wp_X12_isSome⟩
theorem wd_1816 : Cond.code ({ cls := "UtilityBoardModel", name := "up", desc := "(II)I" } : MethodName) prog_14_method_4_code (2 : Nat) (Option.some .int) ∈ lw_ok := lw_ok_mem (tb_7 _ (List.mem_of_getElem? (i := 38) rfl)) rfl
theorem wc_X12_up : Cond.code yX12_up cX12_up 2 (some .int) ∈ lw_ok := wd_1816
theorem wi_X12_up : Cond.initialized yX12_up.cls ∈ lw_ok := wd_106
theorem wn_X12_up : notMH yX12_up := ⟨by decide, by decide⟩
theorem wp_X12_up : (parseMethodDescriptor yX12_up.desc).map (fun d => d.parameters.length) = some 2 := by decide +kernel
theorem wd_1815 : Cond.static ({ cls := "UtilityBoardModel", name := "up", desc := "(II)I" } : MethodName) ∈ lw_ok := lw_ok_mem (tb_7 _ (List.mem_of_getElem? (i := 37) (by decide +kernel))) rfl
theorem wt_X12_up : Cond.static yX12_up ∈ lw_ok := wd_1815
theorem wd_1814 : Cond.methodLink "UtilityBoardModel" (437 : Nat) ({ cls := "UtilityBoardModel", name := "up", desc := "(II)I" } : MethodName) ∈ lw_ok := lw_ok_mem (tb_7 _ (List.mem_of_getElem? (i := 36) (by decide +kernel))) rfl
theorem cs_X12_437 : CSW RX12 437 yX12_up cX12_up 2 (some .int) 2 := ⟨wd_1814, wt_X12_up, wi_X12_up, wc_X12_up, wn_X12_up, wp_X12_up⟩
theorem wd_1832 : Cond.code ({ cls := "UtilityBoardModel", name := "isPerson", desc := "(I)Z" } : MethodName) prog_14_method_65_code (2 : Nat) (Option.some .boolean) ∈ lw_ok := lw_ok_mem (tb_7 _ (List.mem_of_getElem? (i := 54) rfl)) rfl
theorem wc_X12_isPerson : Cond.code yX12_isPerson cX12_isPerson 2 (some .boolean) ∈ lw_ok := wd_1832
theorem wi_X12_isPerson : Cond.initialized yX12_isPerson.cls ∈ lw_ok := wd_106
theorem wn_X12_isPerson : notMH yX12_isPerson := ⟨by decide, by decide⟩
theorem wp_X12_isPerson : (parseMethodDescriptor yX12_isPerson.desc).map (fun d => d.parameters.length) = some 1 := by decide +kernel
theorem wd_1831 : Cond.instanceMethod ({ cls := "UtilityBoardModel", name := "isPerson", desc := "(I)Z" } : MethodName) ∈ lw_ok := lw_ok_mem (tb_7 _ (List.mem_of_getElem? (i := 53) (by decide +kernel))) rfl
theorem wm_X12_isPerson : Cond.instanceMethod yX12_isPerson ∈ lw_ok := wd_1831
theorem wd_90 : Cond.selects "UtilityBoardModel" ⟨"UtilityBoardModel", "isPerson", "(I)Z"⟩ ⟨"UtilityBoardModel", "isPerson", "(I)Z"⟩ ∈ lw_ok := lw_ok_mem (List.mem_append_left _ (List.mem_of_getElem? (i := 90) (by decide +kernel))) rfl
theorem ws_X12_isPerson : Cond.selects yX12_isPerson.cls yX12_isPerson yX12_isPerson ∈ lw_ok := wd_90
theorem wd_1829 : Cond.methodLink "UtilityBoardModel" (443 : Nat) ({ cls := "UtilityBoardModel", name := "isPerson", desc := "(I)Z" } : MethodName) ∈ lw_ok := lw_ok_mem (tb_7 _ (List.mem_of_getElem? (i := 51) (by decide +kernel))) rfl
theorem cv_X12_443 : CVW RX12 443 yX12_isPerson.cls yX12_isPerson cX12_isPerson 2 (some .boolean) 1 := ⟨wd_1829, wm_X12_isPerson, ws_X12_isPerson, wi_X12_isPerson, wc_X12_isPerson, wn_X12_isPerson, wp_X12_isPerson⟩
theorem wd_1836 : Cond.code ({ cls := "UtilityBoardModel", name := "paidFor", desc := "(I)I" } : MethodName) prog_14_method_68_code (3 : Nat) (Option.some .int) ∈ lw_ok := lw_ok_mem (tb_7 _ (List.mem_of_getElem? (i := 58) rfl)) rfl
theorem wc_X12_paidFor : Cond.code yX12_paidFor cX12_paidFor 3 (some .int) ∈ lw_ok := wd_1836
theorem wi_X12_paidFor : Cond.initialized yX12_paidFor.cls ∈ lw_ok := wd_106
theorem wn_X12_paidFor : notMH yX12_paidFor := ⟨by decide, by decide⟩
theorem wp_X12_paidFor : (parseMethodDescriptor yX12_paidFor.desc).map (fun d => d.parameters.length) = some 1 := by decide +kernel
theorem wd_1835 : Cond.instanceMethod ({ cls := "UtilityBoardModel", name := "paidFor", desc := "(I)I" } : MethodName) ∈ lw_ok := lw_ok_mem (tb_7 _ (List.mem_of_getElem? (i := 57) (by decide +kernel))) rfl
theorem wm_X12_paidFor : Cond.instanceMethod yX12_paidFor ∈ lw_ok := wd_1835
theorem wd_91 : Cond.selects "UtilityBoardModel" ⟨"UtilityBoardModel", "paidFor", "(I)I"⟩ ⟨"UtilityBoardModel", "paidFor", "(I)I"⟩ ∈ lw_ok := lw_ok_mem (List.mem_append_left _ (List.mem_of_getElem? (i := 91) (by decide +kernel))) rfl
theorem ws_X12_paidFor : Cond.selects yX12_paidFor.cls yX12_paidFor yX12_paidFor ∈ lw_ok := wd_91
theorem wd_1833 : Cond.methodLink "UtilityBoardModel" (446 : Nat) ({ cls := "UtilityBoardModel", name := "paidFor", desc := "(I)I" } : MethodName) ∈ lw_ok := lw_ok_mem (tb_7 _ (List.mem_of_getElem? (i := 55) (by decide +kernel))) rfl
theorem cv_X12_446 : CVW RX12 446 yX12_paidFor.cls yX12_paidFor cX12_paidFor 3 (some .int) 1 := ⟨wd_1833, wm_X12_paidFor, ws_X12_paidFor, wi_X12_paidFor, wc_X12_paidFor, wn_X12_paidFor, wp_X12_paidFor⟩
theorem wd_1860 : Cond.code ({ cls := "UtilityBoardModel", name := "isAhead", desc := "(II)Z" } : MethodName) prog_14_method_73_code (3 : Nat) (Option.some .boolean) ∈ lw_ok := lw_ok_mem (tb_7 _ (List.mem_of_getElem? (i := 82) rfl)) rfl
theorem wc_X12_isAhead : Cond.code yX12_isAhead cX12_isAhead 3 (some .boolean) ∈ lw_ok := wd_1860
theorem wi_X12_isAhead : Cond.initialized yX12_isAhead.cls ∈ lw_ok := wd_106
theorem wn_X12_isAhead : notMH yX12_isAhead := ⟨by decide, by decide⟩
theorem wp_X12_isAhead : (parseMethodDescriptor yX12_isAhead.desc).map (fun d => d.parameters.length) = some 2 := by decide +kernel
theorem wd_1859 : Cond.instanceMethod ({ cls := "UtilityBoardModel", name := "isAhead", desc := "(II)Z" } : MethodName) ∈ lw_ok := lw_ok_mem (tb_7 _ (List.mem_of_getElem? (i := 81) (by decide +kernel))) rfl
theorem wm_X12_isAhead : Cond.instanceMethod yX12_isAhead ∈ lw_ok := wd_1859
theorem wd_93 : Cond.selects "UtilityBoardModel" ⟨"UtilityBoardModel", "isAhead", "(II)Z"⟩ ⟨"UtilityBoardModel", "isAhead", "(II)Z"⟩ ∈ lw_ok := lw_ok_mem (List.mem_append_left _ (List.mem_of_getElem? (i := 93) (by decide +kernel))) rfl
theorem ws_X12_isAhead : Cond.selects yX12_isAhead.cls yX12_isAhead yX12_isAhead ∈ lw_ok := wd_93
theorem wd_1857 : Cond.methodLink "UtilityBoardModel" (452 : Nat) ({ cls := "UtilityBoardModel", name := "isAhead", desc := "(II)Z" } : MethodName) ∈ lw_ok := lw_ok_mem (tb_7 _ (List.mem_of_getElem? (i := 79) (by decide +kernel))) rfl
theorem cv_X12_452 : CVW RX12 452 yX12_isAhead.cls yX12_isAhead cX12_isAhead 3 (some .boolean) 2 := ⟨wd_1857, wm_X12_isAhead, ws_X12_isAhead, wi_X12_isAhead, wc_X12_isAhead, wn_X12_isAhead, wp_X12_isAhead⟩
theorem wd_1856 : Cond.code ({ cls := "UtilityBoardModel", name := "aheadOf", desc := "(I)I" } : MethodName) prog_14_method_74_code (4 : Nat) (Option.some .int) ∈ lw_ok := lw_ok_mem (tb_7 _ (List.mem_of_getElem? (i := 78) rfl)) rfl
theorem wc_X12_aheadOf : Cond.code yX12_aheadOf cX12_aheadOf 4 (some .int) ∈ lw_ok := wd_1856
theorem wi_X12_aheadOf : Cond.initialized yX12_aheadOf.cls ∈ lw_ok := wd_106
theorem wn_X12_aheadOf : notMH yX12_aheadOf := ⟨by decide, by decide⟩
theorem wp_X12_aheadOf : (parseMethodDescriptor yX12_aheadOf.desc).map (fun d => d.parameters.length) = some 1 := by decide +kernel
theorem wd_1855 : Cond.instanceMethod ({ cls := "UtilityBoardModel", name := "aheadOf", desc := "(I)I" } : MethodName) ∈ lw_ok := lw_ok_mem (tb_7 _ (List.mem_of_getElem? (i := 77) (by decide +kernel))) rfl
theorem wm_X12_aheadOf : Cond.instanceMethod yX12_aheadOf ∈ lw_ok := wd_1855
theorem wd_92 : Cond.selects "UtilityBoardModel" ⟨"UtilityBoardModel", "aheadOf", "(I)I"⟩ ⟨"UtilityBoardModel", "aheadOf", "(I)I"⟩ ∈ lw_ok := lw_ok_mem (List.mem_append_left _ (List.mem_of_getElem? (i := 92) (by decide +kernel))) rfl
theorem ws_X12_aheadOf : Cond.selects yX12_aheadOf.cls yX12_aheadOf yX12_aheadOf ∈ lw_ok := wd_92
theorem wd_1853 : Cond.methodLink "UtilityBoardModel" (455 : Nat) ({ cls := "UtilityBoardModel", name := "aheadOf", desc := "(I)I" } : MethodName) ∈ lw_ok := lw_ok_mem (tb_7 _ (List.mem_of_getElem? (i := 75) (by decide +kernel))) rfl
theorem cv_X12_455 : CVW RX12 455 yX12_aheadOf.cls yX12_aheadOf cX12_aheadOf 4 (some .int) 1 := ⟨wd_1853, wm_X12_aheadOf, ws_X12_aheadOf, wi_X12_aheadOf, wc_X12_aheadOf, wn_X12_aheadOf, wp_X12_aheadOf⟩
theorem wd_1899 : Cond.code ({ cls := "UtilityBoardModel", name := "bits", desc := "(I)I" } : MethodName) prog_14_method_83_code (3 : Nat) (Option.some .int) ∈ lw_ok := lw_ok_mem (tb_7 _ (List.mem_of_getElem? (i := 121) rfl)) rfl
theorem wc_X12_bits : Cond.code yX12_bits cX12_bits 3 (some .int) ∈ lw_ok := wd_1899
theorem wi_X12_bits : Cond.initialized yX12_bits.cls ∈ lw_ok := wd_106
theorem wn_X12_bits : notMH yX12_bits := ⟨by decide, by decide⟩
theorem wp_X12_bits : (parseMethodDescriptor yX12_bits.desc).map (fun d => d.parameters.length) = some 1 := by decide +kernel
theorem wd_1898 : Cond.static ({ cls := "UtilityBoardModel", name := "bits", desc := "(I)I" } : MethodName) ∈ lw_ok := lw_ok_mem (tb_7 _ (List.mem_of_getElem? (i := 120) (by decide +kernel))) rfl
theorem wt_X12_bits : Cond.static yX12_bits ∈ lw_ok := wd_1898
theorem wd_1897 : Cond.methodLink "UtilityBoardModel" (464 : Nat) ({ cls := "UtilityBoardModel", name := "bits", desc := "(I)I" } : MethodName) ∈ lw_ok := lw_ok_mem (tb_7 _ (List.mem_of_getElem? (i := 119) (by decide +kernel))) rfl
theorem cs_X12_464 : CSW RX12 464 yX12_bits cX12_bits 3 (some .int) 1 := ⟨wd_1897, wt_X12_bits, wi_X12_bits, wc_X12_bits, wn_X12_bits, wp_X12_bits⟩
theorem wd_1896 : Cond.code ({ cls := "UtilityBoardModel", name := "areTold", desc := "(I)Z" } : MethodName) prog_14_method_84_code (2 : Nat) (Option.some .boolean) ∈ lw_ok := lw_ok_mem (tb_7 _ (List.mem_of_getElem? (i := 118) rfl)) rfl
theorem wc_X12_areTold : Cond.code yX12_areTold cX12_areTold 2 (some .boolean) ∈ lw_ok := wd_1896
theorem wi_X12_areTold : Cond.initialized yX12_areTold.cls ∈ lw_ok := wd_106
theorem wn_X12_areTold : notMH yX12_areTold := ⟨by decide, by decide⟩
theorem wp_X12_areTold : (parseMethodDescriptor yX12_areTold.desc).map (fun d => d.parameters.length) = some 1 := by decide +kernel
theorem wd_1895 : Cond.instanceMethod ({ cls := "UtilityBoardModel", name := "areTold", desc := "(I)Z" } : MethodName) ∈ lw_ok := lw_ok_mem (tb_7 _ (List.mem_of_getElem? (i := 117) (by decide +kernel))) rfl
theorem wm_X12_areTold : Cond.instanceMethod yX12_areTold ∈ lw_ok := wd_1895
theorem wd_94 : Cond.selects "UtilityBoardModel" ⟨"UtilityBoardModel", "areTold", "(I)Z"⟩ ⟨"UtilityBoardModel", "areTold", "(I)Z"⟩ ∈ lw_ok := lw_ok_mem (List.mem_append_left _ (List.mem_of_getElem? (i := 94) (by decide +kernel))) rfl
theorem ws_X12_areTold : Cond.selects yX12_areTold.cls yX12_areTold yX12_areTold ∈ lw_ok := wd_94
theorem wd_1893 : Cond.methodLink "UtilityBoardModel" (467 : Nat) ({ cls := "UtilityBoardModel", name := "areTold", desc := "(I)Z" } : MethodName) ∈ lw_ok := lw_ok_mem (tb_7 _ (List.mem_of_getElem? (i := 115) (by decide +kernel))) rfl
theorem cv_X12_467 : CVW RX12 467 yX12_areTold.cls yX12_areTold cX12_areTold 2 (some .boolean) 1 := ⟨wd_1893, wm_X12_areTold, ws_X12_areTold, wi_X12_areTold, wc_X12_areTold, wn_X12_areTold, wp_X12_areTold⟩
theorem wd_1903 : Cond.code ({ cls := "UtilityBoardModel", name := "neededBy", desc := "(III)I" } : MethodName) prog_14_method_85_code (10 : Nat) (Option.some .int) ∈ lw_ok := lw_ok_mem (tb_7 _ (List.mem_of_getElem? (i := 125) rfl)) rfl
theorem wc_X12_neededBy : Cond.code yX12_neededBy cX12_neededBy 10 (some .int) ∈ lw_ok := wd_1903
theorem wi_X12_neededBy : Cond.initialized yX12_neededBy.cls ∈ lw_ok := wd_106
theorem wn_X12_neededBy : notMH yX12_neededBy := ⟨by decide, by decide⟩
theorem wp_X12_neededBy : (parseMethodDescriptor yX12_neededBy.desc).map (fun d => d.parameters.length) = some 3 := by decide +kernel
theorem wd_1902 : Cond.instanceMethod ({ cls := "UtilityBoardModel", name := "neededBy", desc := "(III)I" } : MethodName) ∈ lw_ok := lw_ok_mem (tb_7 _ (List.mem_of_getElem? (i := 124) (by decide +kernel))) rfl
theorem wm_X12_neededBy : Cond.instanceMethod yX12_neededBy ∈ lw_ok := wd_1902
theorem wd_95 : Cond.selects "UtilityBoardModel" ⟨"UtilityBoardModel", "neededBy", "(III)I"⟩ ⟨"UtilityBoardModel", "neededBy", "(III)I"⟩ ∈ lw_ok := lw_ok_mem (List.mem_append_left _ (List.mem_of_getElem? (i := 95) (by decide +kernel))) rfl
theorem ws_X12_neededBy : Cond.selects yX12_neededBy.cls yX12_neededBy yX12_neededBy ∈ lw_ok := wd_95
theorem wd_1900 : Cond.methodLink "UtilityBoardModel" (470 : Nat) ({ cls := "UtilityBoardModel", name := "neededBy", desc := "(III)I" } : MethodName) ∈ lw_ok := lw_ok_mem (tb_7 _ (List.mem_of_getElem? (i := 122) (by decide +kernel))) rfl
theorem cv_X12_470 : CVW RX12 470 yX12_neededBy.cls yX12_neededBy cX12_neededBy 10 (some .int) 3 := ⟨wd_1900, wm_X12_neededBy, ws_X12_neededBy, wi_X12_neededBy, wc_X12_neededBy, wn_X12_neededBy, wp_X12_neededBy⟩
theorem wd_1911 : Cond.code ({ cls := "UtilityBoardModel", name := "hasTown", desc := "(II)Z" } : MethodName) prog_14_method_87_code (4 : Nat) (Option.some .boolean) ∈ lw_ok := lw_ok_mem (tb_7 _ (List.mem_of_getElem? (i := 133) rfl)) rfl
theorem wc_X12_hasTown : Cond.code yX12_hasTown cX12_hasTown 4 (some .boolean) ∈ lw_ok := wd_1911
theorem wi_X12_hasTown : Cond.initialized yX12_hasTown.cls ∈ lw_ok := wd_106
theorem wn_X12_hasTown : notMH yX12_hasTown := ⟨by decide, by decide⟩
theorem wp_X12_hasTown : (parseMethodDescriptor yX12_hasTown.desc).map (fun d => d.parameters.length) = some 2 := by decide +kernel
theorem wd_1910 : Cond.instanceMethod ({ cls := "UtilityBoardModel", name := "hasTown", desc := "(II)Z" } : MethodName) ∈ lw_ok := lw_ok_mem (tb_7 _ (List.mem_of_getElem? (i := 132) (by decide +kernel))) rfl
theorem wm_X12_hasTown : Cond.instanceMethod yX12_hasTown ∈ lw_ok := wd_1910
theorem wd_96 : Cond.selects "UtilityBoardModel" ⟨"UtilityBoardModel", "hasTown", "(II)Z"⟩ ⟨"UtilityBoardModel", "hasTown", "(II)Z"⟩ ∈ lw_ok := lw_ok_mem (List.mem_append_left _ (List.mem_of_getElem? (i := 96) (by decide +kernel))) rfl
theorem ws_X12_hasTown : Cond.selects yX12_hasTown.cls yX12_hasTown yX12_hasTown ∈ lw_ok := wd_96
theorem wd_1908 : Cond.methodLink "UtilityBoardModel" (473 : Nat) ({ cls := "UtilityBoardModel", name := "hasTown", desc := "(II)Z" } : MethodName) ∈ lw_ok := lw_ok_mem (tb_7 _ (List.mem_of_getElem? (i := 130) (by decide +kernel))) rfl
theorem cv_X12_473 : CVW RX12 473 yX12_hasTown.cls yX12_hasTown cX12_hasTown 4 (some .boolean) 2 := ⟨wd_1908, wm_X12_hasTown, ws_X12_hasTown, wi_X12_hasTown, wc_X12_hasTown, wn_X12_hasTown, wp_X12_hasTown⟩
theorem wd_1928 : Cond.code ({ cls := "UtilityBoardModel", name := "tapeNumber", desc := "(I)I" } : MethodName) prog_14_method_91_code (4 : Nat) (Option.some .int) ∈ lw_ok := lw_ok_mem (tb_7 _ (List.mem_of_getElem? (i := 150) rfl)) rfl
theorem wc_X12_tapeNumber : Cond.code yX12_tapeNumber cX12_tapeNumber 4 (some .int) ∈ lw_ok := wd_1928
theorem wi_X12_tapeNumber : Cond.initialized yX12_tapeNumber.cls ∈ lw_ok := wd_106
theorem wn_X12_tapeNumber : notMH yX12_tapeNumber := ⟨by decide, by decide⟩
theorem wp_X12_tapeNumber : (parseMethodDescriptor yX12_tapeNumber.desc).map (fun d => d.parameters.length) = some 1 := by decide +kernel
theorem wd_1927 : Cond.instanceMethod ({ cls := "UtilityBoardModel", name := "tapeNumber", desc := "(I)I" } : MethodName) ∈ lw_ok := lw_ok_mem (tb_7 _ (List.mem_of_getElem? (i := 149) (by decide +kernel))) rfl
theorem wm_X12_tapeNumber : Cond.instanceMethod yX12_tapeNumber ∈ lw_ok := wd_1927
theorem wd_97 : Cond.selects "UtilityBoardModel" ⟨"UtilityBoardModel", "tapeNumber", "(I)I"⟩ ⟨"UtilityBoardModel", "tapeNumber", "(I)I"⟩ ∈ lw_ok := lw_ok_mem (List.mem_append_left _ (List.mem_of_getElem? (i := 97) (by decide +kernel))) rfl
theorem ws_X12_tapeNumber : Cond.selects yX12_tapeNumber.cls yX12_tapeNumber yX12_tapeNumber ∈ lw_ok := wd_97
theorem wd_1925 : Cond.methodLink "UtilityBoardModel" (477 : Nat) ({ cls := "UtilityBoardModel", name := "tapeNumber", desc := "(I)I" } : MethodName) ∈ lw_ok := lw_ok_mem (tb_7 _ (List.mem_of_getElem? (i := 147) (by decide +kernel))) rfl
theorem cv_X12_477 : CVW RX12 477 yX12_tapeNumber.cls yX12_tapeNumber cX12_tapeNumber 4 (some .int) 1 := ⟨wd_1925, wm_X12_tapeNumber, ws_X12_tapeNumber, wi_X12_tapeNumber, wc_X12_tapeNumber, wn_X12_tapeNumber, wp_X12_tapeNumber⟩
theorem wd_871 : Cond.code ({ cls := "java/lang/String", name := "coder", desc := "()B" } : MethodName) prog_21_method_152_code (1 : Nat) (Option.some .byte) ∈ lw_ok := lw_ok_mem (tb_3 _ (List.mem_of_getElem? (i := 53) rfl)) rfl
theorem wc_J0_coder_7d493 : Cond.code yJ0_coder_7d493 cJ0_coder_7d493 1 (some .byte) ∈ lw_ok := wd_871
theorem wi_J0_coder_7d493 : Cond.initialized yJ0_coder_7d493.cls ∈ lw_ok := wd_118
theorem wn_J0_coder_7d493 : notMH yJ0_coder_7d493 := ⟨by decide, by decide⟩
theorem wp_J0_coder_7d493 : (parseMethodDescriptor yJ0_coder_7d493.desc).map (fun d => d.parameters.length) = some 0 := by decide +kernel
theorem wd_869 : Cond.instanceMethod ({ cls := "java/lang/String", name := "coder", desc := "()B" } : MethodName) ∈ lw_ok := lw_ok_mem (tb_3 _ (List.mem_of_getElem? (i := 51) (by decide +kernel))) rfl
theorem wm_J0_coder_7d493 : Cond.instanceMethod yJ0_coder_7d493 ∈ lw_ok := wd_869
theorem wd_870 : Cond.selects "java/lang/String" ({ cls := "java/lang/String", name := "coder", desc := "()B" } : MethodName) ({ cls := "java/lang/String", name := "coder", desc := "()B" } : MethodName) ∈ lw_ok := lw_ok_mem (tb_3 _ (List.mem_of_getElem? (i := 52) (by decide +kernel))) rfl
theorem ws_J0_coder_7d493 : Cond.selects yJ0_coder_7d493.cls yJ0_coder_7d493 yJ0_coder_7d493 ∈ lw_ok := wd_870
theorem wd_868 : Cond.methodLink "java/lang/String" (335 : Nat) ({ cls := "java/lang/String", name := "coder", desc := "()B" } : MethodName) ∈ lw_ok := lw_ok_mem (tb_3 _ (List.mem_of_getElem? (i := 50) (by decide +kernel))) rfl
theorem cv_J0_335 : CVW RJ0 335 yJ0_coder_7d493.cls yJ0_coder_7d493 cJ0_coder_7d493 1 (some .byte) 0 := ⟨wd_868, wm_J0_coder_7d493, ws_J0_coder_7d493, wi_J0_coder_7d493, wc_J0_coder_7d493, wn_J0_coder_7d493, wp_J0_coder_7d493⟩
theorem wd_861 : Cond.code ({ cls := "java/lang/String", name := "isLatin1", desc := "()Z" } : MethodName) prog_21_method_154_code (1 : Nat) (Option.some .boolean) ∈ lw_ok := lw_ok_mem (tb_3 _ (List.mem_of_getElem? (i := 43) rfl)) rfl
theorem wc_J0_isLatin1_aae02 : Cond.code yJ0_isLatin1_aae02 cJ0_isLatin1_aae02 1 (some .boolean) ∈ lw_ok := wd_861
theorem wi_J0_isLatin1_aae02 : Cond.initialized yJ0_isLatin1_aae02.cls ∈ lw_ok := wd_118
theorem wn_J0_isLatin1_aae02 : notMH yJ0_isLatin1_aae02 := ⟨by decide, by decide⟩
theorem wp_J0_isLatin1_aae02 : (parseMethodDescriptor yJ0_isLatin1_aae02.desc).map (fun d => d.parameters.length) = some 0 := by decide +kernel
theorem wd_859 : Cond.instanceMethod ({ cls := "java/lang/String", name := "isLatin1", desc := "()Z" } : MethodName) ∈ lw_ok := lw_ok_mem (tb_3 _ (List.mem_of_getElem? (i := 41) (by decide +kernel))) rfl
theorem wm_J0_isLatin1_aae02 : Cond.instanceMethod yJ0_isLatin1_aae02 ∈ lw_ok := wd_859
theorem wd_860 : Cond.selects "java/lang/String" ({ cls := "java/lang/String", name := "isLatin1", desc := "()Z" } : MethodName) ({ cls := "java/lang/String", name := "isLatin1", desc := "()Z" } : MethodName) ∈ lw_ok := lw_ok_mem (tb_3 _ (List.mem_of_getElem? (i := 42) (by decide +kernel))) rfl
theorem ws_J0_isLatin1_aae02 : Cond.selects yJ0_isLatin1_aae02.cls yJ0_isLatin1_aae02 yJ0_isLatin1_aae02 ∈ lw_ok := wd_860
theorem wd_858 : Cond.methodLink "java/lang/String" (492 : Nat) ({ cls := "java/lang/String", name := "isLatin1", desc := "()Z" } : MethodName) ∈ lw_ok := lw_ok_mem (tb_3 _ (List.mem_of_getElem? (i := 40) (by decide +kernel))) rfl
theorem cv_J0_492 : CVW RJ0 492 yJ0_isLatin1_aae02.cls yJ0_isLatin1_aae02 cJ0_isLatin1_aae02 1 (some .boolean) 0 := ⟨wd_858, wm_J0_isLatin1_aae02, ws_J0_isLatin1_aae02, wi_J0_isLatin1_aae02, wc_J0_isLatin1_aae02, wn_J0_isLatin1_aae02, wp_J0_isLatin1_aae02⟩
theorem wd_1039 : Cond.code ({ cls := "java/lang/StringLatin1", name := "charAt", desc := "([BI)C" } : MethodName) prog_22_method_2_code (2 : Nat) (Option.some .char) ∈ lw_ok := lw_ok_mem (tb_3 _ (List.mem_of_getElem? (i := 221) rfl)) rfl
theorem wc_J1_charAt_3b067 : Cond.code yJ1_charAt_3b067 cJ1_charAt_3b067 2 (some .char) ∈ lw_ok := wd_1039
theorem wd_119 : Cond.initialized "java/lang/StringLatin1" ∈ lw_ok := lw_ok_mem (tb_0 _ (List.mem_of_getElem? (i := 21) (by decide +kernel))) rfl
theorem wi_J1_charAt_3b067 : Cond.initialized yJ1_charAt_3b067.cls ∈ lw_ok := wd_119
theorem wn_J1_charAt_3b067 : notMH yJ1_charAt_3b067 := ⟨by decide, by decide⟩
theorem wp_J1_charAt_3b067 : (parseMethodDescriptor yJ1_charAt_3b067.desc).map (fun d => d.parameters.length) = some 2 := by decide +kernel
theorem wd_1038 : Cond.static ({ cls := "java/lang/StringLatin1", name := "charAt", desc := "([BI)C" } : MethodName) ∈ lw_ok := lw_ok_mem (tb_3 _ (List.mem_of_getElem? (i := 220) (by decide +kernel))) rfl
theorem wt_J1_charAt_3b067 : Cond.static yJ1_charAt_3b067 ∈ lw_ok := wd_1038
theorem wd_1037 : Cond.methodLink "java/lang/String" (495 : Nat) ({ cls := "java/lang/StringLatin1", name := "charAt", desc := "([BI)C" } : MethodName) ∈ lw_ok := lw_ok_mem (tb_3 _ (List.mem_of_getElem? (i := 219) (by decide +kernel))) rfl
theorem cs_J0_495 : CSW RJ0 495 yJ1_charAt_3b067 cJ1_charAt_3b067 2 (some .char) 2 := ⟨wd_1037, wt_J1_charAt_3b067, wi_J1_charAt_3b067, wc_J1_charAt_3b067, wn_J1_charAt_3b067, wp_J1_charAt_3b067⟩
theorem wd_1046 : Cond.code ({ cls := "java/lang/StringUTF16", name := "charAt", desc := "([BI)C" } : MethodName) prog_23_method_83_code (2 : Nat) (Option.some .char) ∈ lw_ok := lw_ok_mem (tb_3 _ (List.mem_of_getElem? (i := 228) rfl)) rfl
theorem wc_J2_charAt_3b067 : Cond.code yJ2_charAt_3b067 cJ2_charAt_3b067 2 (some .char) ∈ lw_ok := wd_1046
theorem wd_120 : Cond.initialized "java/lang/StringUTF16" ∈ lw_ok := lw_ok_mem (tb_0 _ (List.mem_of_getElem? (i := 22) (by decide +kernel))) rfl
theorem wi_J2_charAt_3b067 : Cond.initialized yJ2_charAt_3b067.cls ∈ lw_ok := wd_120
theorem wn_J2_charAt_3b067 : notMH yJ2_charAt_3b067 := ⟨by decide, by decide⟩
theorem wp_J2_charAt_3b067 : (parseMethodDescriptor yJ2_charAt_3b067.desc).map (fun d => d.parameters.length) = some 2 := by decide +kernel
theorem wd_1045 : Cond.static ({ cls := "java/lang/StringUTF16", name := "charAt", desc := "([BI)C" } : MethodName) ∈ lw_ok := lw_ok_mem (tb_3 _ (List.mem_of_getElem? (i := 227) (by decide +kernel))) rfl
theorem wt_J2_charAt_3b067 : Cond.static yJ2_charAt_3b067 ∈ lw_ok := wd_1045
theorem wd_1044 : Cond.methodLink "java/lang/String" (498 : Nat) ({ cls := "java/lang/StringUTF16", name := "charAt", desc := "([BI)C" } : MethodName) ∈ lw_ok := lw_ok_mem (tb_3 _ (List.mem_of_getElem? (i := 226) (by decide +kernel))) rfl
theorem cs_J0_498 : CSW RJ0 498 yJ2_charAt_3b067 cJ2_charAt_3b067 2 (some .char) 2 := ⟨wd_1044, wt_J2_charAt_3b067, wi_J2_charAt_3b067, wc_J2_charAt_3b067, wn_J2_charAt_3b067, wp_J2_charAt_3b067⟩
theorem wd_867 : Cond.code ({ cls := "java/lang/String", name := "length", desc := "()I" } : MethodName) prog_21_method_54_code (1 : Nat) (Option.some .int) ∈ lw_ok := lw_ok_mem (tb_3 _ (List.mem_of_getElem? (i := 49) rfl)) rfl
theorem wc_J0_length_8abf5 : Cond.code yJ0_length_8abf5 cJ0_length_8abf5 1 (some .int) ∈ lw_ok := wd_867
theorem wi_J0_length_8abf5 : Cond.initialized yJ0_length_8abf5.cls ∈ lw_ok := wd_118
theorem wn_J0_length_8abf5 : notMH yJ0_length_8abf5 := ⟨by decide, by decide⟩
theorem wp_J0_length_8abf5 : (parseMethodDescriptor yJ0_length_8abf5.desc).map (fun d => d.parameters.length) = some 0 := by decide +kernel
theorem wd_865 : Cond.instanceMethod ({ cls := "java/lang/String", name := "length", desc := "()I" } : MethodName) ∈ lw_ok := lw_ok_mem (tb_3 _ (List.mem_of_getElem? (i := 47) (by decide +kernel))) rfl
theorem wm_J0_length_8abf5 : Cond.instanceMethod yJ0_length_8abf5 ∈ lw_ok := wd_865
theorem wd_866 : Cond.selects "java/lang/String" ({ cls := "java/lang/String", name := "length", desc := "()I" } : MethodName) ({ cls := "java/lang/String", name := "length", desc := "()I" } : MethodName) ∈ lw_ok := lw_ok_mem (tb_3 _ (List.mem_of_getElem? (i := 48) (by decide +kernel))) rfl
theorem ws_J0_length_8abf5 : Cond.selects yJ0_length_8abf5.cls yJ0_length_8abf5 yJ0_length_8abf5 ∈ lw_ok := wd_866
theorem wd_864 : Cond.methodLink "java/lang/String" (505 : Nat) ({ cls := "java/lang/String", name := "length", desc := "()I" } : MethodName) ∈ lw_ok := lw_ok_mem (tb_3 _ (List.mem_of_getElem? (i := 46) (by decide +kernel))) rfl
theorem cv_J0_505 : CVW RJ0 505 yJ0_length_8abf5.cls yJ0_length_8abf5 cJ0_length_8abf5 1 (some .int) 0 := ⟨wd_864, wm_J0_length_8abf5, ws_J0_length_8abf5, wi_J0_length_8abf5, wc_J0_length_8abf5, wn_J0_length_8abf5, wp_J0_length_8abf5⟩
theorem wd_857 : Cond.code ({ cls := "java/lang/String", name := "indexOf", desc := "(II)I" } : MethodName) prog_21_method_80_code (3 : Nat) (Option.some .int) ∈ lw_ok := lw_ok_mem (tb_3 _ (List.mem_of_getElem? (i := 39) rfl)) rfl
theorem wc_J0_indexOf_7cf53 : Cond.code yJ0_indexOf_7cf53 cJ0_indexOf_7cf53 3 (some .int) ∈ lw_ok := wd_857
theorem wi_J0_indexOf_7cf53 : Cond.initialized yJ0_indexOf_7cf53.cls ∈ lw_ok := wd_118
theorem wn_J0_indexOf_7cf53 : notMH yJ0_indexOf_7cf53 := ⟨by decide, by decide⟩
theorem wp_J0_indexOf_7cf53 : (parseMethodDescriptor yJ0_indexOf_7cf53.desc).map (fun d => d.parameters.length) = some 2 := by decide +kernel
theorem wd_855 : Cond.instanceMethod ({ cls := "java/lang/String", name := "indexOf", desc := "(II)I" } : MethodName) ∈ lw_ok := lw_ok_mem (tb_3 _ (List.mem_of_getElem? (i := 37) (by decide +kernel))) rfl
theorem wm_J0_indexOf_7cf53 : Cond.instanceMethod yJ0_indexOf_7cf53 ∈ lw_ok := wd_855
theorem wd_856 : Cond.selects "java/lang/String" ({ cls := "java/lang/String", name := "indexOf", desc := "(II)I" } : MethodName) ({ cls := "java/lang/String", name := "indexOf", desc := "(II)I" } : MethodName) ∈ lw_ok := lw_ok_mem (tb_3 _ (List.mem_of_getElem? (i := 38) (by decide +kernel))) rfl
theorem ws_J0_indexOf_7cf53 : Cond.selects yJ0_indexOf_7cf53.cls yJ0_indexOf_7cf53 yJ0_indexOf_7cf53 ∈ lw_ok := wd_856
theorem wd_854 : Cond.methodLink "java/lang/String" (633 : Nat) ({ cls := "java/lang/String", name := "indexOf", desc := "(II)I" } : MethodName) ∈ lw_ok := lw_ok_mem (tb_3 _ (List.mem_of_getElem? (i := 36) (by decide +kernel))) rfl
theorem cv_J0_633 : CVW RJ0 633 yJ0_indexOf_7cf53.cls yJ0_indexOf_7cf53 cJ0_indexOf_7cf53 3 (some .int) 2 := ⟨wd_854, wm_J0_indexOf_7cf53, ws_J0_indexOf_7cf53, wi_J0_indexOf_7cf53, wc_J0_indexOf_7cf53, wn_J0_indexOf_7cf53, wp_J0_indexOf_7cf53⟩
theorem wd_874 : Cond.code ({ cls := "java/lang/StringLatin1", name := "indexOf", desc := "([BIII)I" } : MethodName) prog_22_method_22_code (4 : Nat) (Option.some .int) ∈ lw_ok := lw_ok_mem (tb_3 _ (List.mem_of_getElem? (i := 56) rfl)) rfl
theorem wc_J1_indexOf_4cfef : Cond.code yJ1_indexOf_4cfef cJ1_indexOf_4cfef 4 (some .int) ∈ lw_ok := wd_874
theorem wi_J1_indexOf_4cfef : Cond.initialized yJ1_indexOf_4cfef.cls ∈ lw_ok := wd_119
theorem wn_J1_indexOf_4cfef : notMH yJ1_indexOf_4cfef := ⟨by decide, by decide⟩
theorem wp_J1_indexOf_4cfef : (parseMethodDescriptor yJ1_indexOf_4cfef.desc).map (fun d => d.parameters.length) = some 4 := by decide +kernel
theorem wd_873 : Cond.static ({ cls := "java/lang/StringLatin1", name := "indexOf", desc := "([BIII)I" } : MethodName) ∈ lw_ok := lw_ok_mem (tb_3 _ (List.mem_of_getElem? (i := 55) (by decide +kernel))) rfl
theorem wt_J1_indexOf_4cfef : Cond.static yJ1_indexOf_4cfef ∈ lw_ok := wd_873
theorem wd_872 : Cond.methodLink "java/lang/String" (637 : Nat) ({ cls := "java/lang/StringLatin1", name := "indexOf", desc := "([BIII)I" } : MethodName) ∈ lw_ok := lw_ok_mem (tb_3 _ (List.mem_of_getElem? (i := 54) (by decide +kernel))) rfl
theorem cs_J0_637 : CSW RJ0 637 yJ1_indexOf_4cfef cJ1_indexOf_4cfef 4 (some .int) 4 := ⟨wd_872, wt_J1_indexOf_4cfef, wi_J1_indexOf_4cfef, wc_J1_indexOf_4cfef, wn_J1_indexOf_4cfef, wp_J1_indexOf_4cfef⟩
theorem wd_885 : Cond.code ({ cls := "java/lang/StringUTF16", name := "indexOf", desc := "([BIII)I" } : MethodName) prog_23_method_40_code (4 : Nat) (Option.some .int) ∈ lw_ok := lw_ok_mem (tb_3 _ (List.mem_of_getElem? (i := 67) rfl)) rfl
theorem wc_J2_indexOf_4cfef : Cond.code yJ2_indexOf_4cfef cJ2_indexOf_4cfef 4 (some .int) ∈ lw_ok := wd_885
theorem wi_J2_indexOf_4cfef : Cond.initialized yJ2_indexOf_4cfef.cls ∈ lw_ok := wd_120
theorem wn_J2_indexOf_4cfef : notMH yJ2_indexOf_4cfef := ⟨by decide, by decide⟩
theorem wp_J2_indexOf_4cfef : (parseMethodDescriptor yJ2_indexOf_4cfef.desc).map (fun d => d.parameters.length) = some 4 := by decide +kernel
theorem wd_884 : Cond.static ({ cls := "java/lang/StringUTF16", name := "indexOf", desc := "([BIII)I" } : MethodName) ∈ lw_ok := lw_ok_mem (tb_3 _ (List.mem_of_getElem? (i := 66) (by decide +kernel))) rfl
theorem wt_J2_indexOf_4cfef : Cond.static yJ2_indexOf_4cfef ∈ lw_ok := wd_884
theorem wd_883 : Cond.methodLink "java/lang/String" (640 : Nat) ({ cls := "java/lang/StringUTF16", name := "indexOf", desc := "([BIII)I" } : MethodName) ∈ lw_ok := lw_ok_mem (tb_3 _ (List.mem_of_getElem? (i := 65) (by decide +kernel))) rfl
theorem cs_J0_640 : CSW RJ0 640 yJ2_indexOf_4cfef cJ2_indexOf_4cfef 4 (some .int) 4 := ⟨wd_883, wt_J2_indexOf_4cfef, wi_J2_indexOf_4cfef, wc_J2_indexOf_4cfef, wn_J2_indexOf_4cfef, wp_J2_indexOf_4cfef⟩
theorem wd_353 : Cond.code ({ cls := "jdk/internal/util/Preconditions", name := "checkIndex", desc := "(IILjava/util/function/BiFunction;)I" } : MethodName) prog_35_method_11_code (3 : Nat) (Option.some .int) ∈ lw_ok := lw_ok_mem (tb_1 _ (List.mem_of_getElem? (i := 15) rfl)) rfl
theorem wc_J3_checkIndex_8e157 : Cond.code yJ3_checkIndex_8e157 cJ3_checkIndex_8e157 3 (some .int) ∈ lw_ok := wd_353
theorem wd_108 : Cond.initialized "jdk/internal/util/Preconditions" ∈ lw_ok := lw_ok_mem (tb_0 _ (List.mem_of_getElem? (i := 10) (by decide +kernel))) rfl
theorem wi_J3_checkIndex_8e157 : Cond.initialized yJ3_checkIndex_8e157.cls ∈ lw_ok := wd_108
theorem wn_J3_checkIndex_8e157 : notMH yJ3_checkIndex_8e157 := ⟨by decide, by decide⟩
theorem wp_J3_checkIndex_8e157 : (parseMethodDescriptor yJ3_checkIndex_8e157.desc).map (fun d => d.parameters.length) = some 3 := by decide +kernel
theorem wd_352 : Cond.static ({ cls := "jdk/internal/util/Preconditions", name := "checkIndex", desc := "(IILjava/util/function/BiFunction;)I" } : MethodName) ∈ lw_ok := lw_ok_mem (tb_1 _ (List.mem_of_getElem? (i := 14) (by decide +kernel))) rfl
theorem wt_J3_checkIndex_8e157 : Cond.static yJ3_checkIndex_8e157 ∈ lw_ok := wd_352
theorem wd_1043 : Cond.methodLink "java/lang/String" (1059 : Nat) ({ cls := "jdk/internal/util/Preconditions", name := "checkIndex", desc := "(IILjava/util/function/BiFunction;)I" } : MethodName) ∈ lw_ok := lw_ok_mem (tb_3 _ (List.mem_of_getElem? (i := 225) (by decide +kernel))) rfl
theorem cs_J0_1059 : CSW RJ0 1059 yJ3_checkIndex_8e157 cJ3_checkIndex_8e157 3 (some .int) 3 := ⟨wd_1043, wt_J3_checkIndex_8e157, wi_J3_checkIndex_8e157, wc_J3_checkIndex_8e157, wn_J3_checkIndex_8e157, wp_J3_checkIndex_8e157⟩
theorem wd_905 : Cond.code ({ cls := "jdk/internal/util/Preconditions", name := "checkFromToIndex", desc := "(IIILjava/util/function/BiFunction;)I" } : MethodName) prog_35_method_12_code (4 : Nat) (Option.some .int) ∈ lw_ok := lw_ok_mem (tb_3 _ (List.mem_of_getElem? (i := 87) rfl)) rfl
theorem wc_J3_checkFromToIndex_8c36e : Cond.code yJ3_checkFromToIndex_8c36e cJ3_checkFromToIndex_8c36e 4 (some .int) ∈ lw_ok := wd_905
theorem wi_J3_checkFromToIndex_8c36e : Cond.initialized yJ3_checkFromToIndex_8c36e.cls ∈ lw_ok := wd_108
theorem wn_J3_checkFromToIndex_8c36e : notMH yJ3_checkFromToIndex_8c36e := ⟨by decide, by decide⟩
theorem wp_J3_checkFromToIndex_8c36e : (parseMethodDescriptor yJ3_checkFromToIndex_8c36e.desc).map (fun d => d.parameters.length) = some 4 := by decide +kernel
theorem wd_904 : Cond.static ({ cls := "jdk/internal/util/Preconditions", name := "checkFromToIndex", desc := "(IIILjava/util/function/BiFunction;)I" } : MethodName) ∈ lw_ok := lw_ok_mem (tb_3 _ (List.mem_of_getElem? (i := 86) (by decide +kernel))) rfl
theorem wt_J3_checkFromToIndex_8c36e : Cond.static yJ3_checkFromToIndex_8c36e ∈ lw_ok := wd_904
theorem wd_903 : Cond.methodLink "java/lang/String" (1062 : Nat) ({ cls := "jdk/internal/util/Preconditions", name := "checkFromToIndex", desc := "(IIILjava/util/function/BiFunction;)I" } : MethodName) ∈ lw_ok := lw_ok_mem (tb_3 _ (List.mem_of_getElem? (i := 85) (by decide +kernel))) rfl
theorem cs_J0_1062 : CSW RJ0 1062 yJ3_checkFromToIndex_8c36e cJ3_checkFromToIndex_8c36e 4 (some .int) 4 := ⟨wd_903, wt_J3_checkFromToIndex_8c36e, wi_J3_checkFromToIndex_8c36e, wc_J3_checkFromToIndex_8c36e, wn_J3_checkFromToIndex_8c36e, wp_J3_checkFromToIndex_8c36e⟩
theorem wd_1042 : Cond.code ({ cls := "java/lang/String", name := "checkIndex", desc := "(II)V" } : MethodName) prog_21_method_155_code (2 : Nat) none ∈ lw_ok := lw_ok_mem (tb_3 _ (List.mem_of_getElem? (i := 224) rfl)) rfl
theorem wc_J0_checkIndex_df160 : Cond.code yJ0_checkIndex_df160 cJ0_checkIndex_df160 2 none ∈ lw_ok := wd_1042
theorem wi_J0_checkIndex_df160 : Cond.initialized yJ0_checkIndex_df160.cls ∈ lw_ok := wd_118
theorem wn_J0_checkIndex_df160 : notMH yJ0_checkIndex_df160 := ⟨by decide, by decide⟩
theorem wp_J0_checkIndex_df160 : (parseMethodDescriptor yJ0_checkIndex_df160.desc).map (fun d => d.parameters.length) = some 2 := by decide +kernel
theorem wd_1041 : Cond.static ({ cls := "java/lang/String", name := "checkIndex", desc := "(II)V" } : MethodName) ∈ lw_ok := lw_ok_mem (tb_3 _ (List.mem_of_getElem? (i := 223) (by decide +kernel))) rfl
theorem wt_J0_checkIndex_df160 : Cond.static yJ0_checkIndex_df160 ∈ lw_ok := wd_1041
theorem wd_1040 : Cond.methodLink "java/lang/StringLatin1" (9 : Nat) ({ cls := "java/lang/String", name := "checkIndex", desc := "(II)V" } : MethodName) ∈ lw_ok := lw_ok_mem (tb_3 _ (List.mem_of_getElem? (i := 222) (by decide +kernel))) rfl
theorem cs_J1_9 : CSW RJ1 9 yJ0_checkIndex_df160 cJ0_checkIndex_df160 2 none 2 := ⟨wd_1040, wt_J0_checkIndex_df160, wi_J0_checkIndex_df160, wc_J0_checkIndex_df160, wn_J0_checkIndex_df160, wp_J0_checkIndex_df160⟩
theorem wd_879 : Cond.methodLink "java/lang/StringLatin1" (38 : Nat) ({ cls := "java/lang/Math", name := "min", desc := "(II)I" } : MethodName) ∈ lw_ok := lw_ok_mem (tb_3 _ (List.mem_of_getElem? (i := 61) (by decide +kernel))) rfl
theorem cs_J1_38 : CSW RJ1 38 yJ9_min_7cf53 cJ9_min_7cf53 2 (some .int) 2 := ⟨wd_879, wt_J9_min_7cf53, wi_J9_min_7cf53, wc_J9_min_7cf53, wn_J9_min_7cf53, wp_J9_min_7cf53⟩
theorem wd_877 : Cond.code ({ cls := "java/lang/StringLatin1", name := "canEncode", desc := "(I)Z" } : MethodName) prog_22_method_4_code (1 : Nat) (Option.some .boolean) ∈ lw_ok := lw_ok_mem (tb_3 _ (List.mem_of_getElem? (i := 59) rfl)) rfl
theorem wc_J1_canEncode_9a6ad : Cond.code yJ1_canEncode_9a6ad cJ1_canEncode_9a6ad 1 (some .boolean) ∈ lw_ok := wd_877
theorem wi_J1_canEncode_9a6ad : Cond.initialized yJ1_canEncode_9a6ad.cls ∈ lw_ok := wd_119
theorem wn_J1_canEncode_9a6ad : notMH yJ1_canEncode_9a6ad := ⟨by decide, by decide⟩
theorem wp_J1_canEncode_9a6ad : (parseMethodDescriptor yJ1_canEncode_9a6ad.desc).map (fun d => d.parameters.length) = some 1 := by decide +kernel
theorem wd_876 : Cond.static ({ cls := "java/lang/StringLatin1", name := "canEncode", desc := "(I)Z" } : MethodName) ∈ lw_ok := lw_ok_mem (tb_3 _ (List.mem_of_getElem? (i := 58) (by decide +kernel))) rfl
theorem wt_J1_canEncode_9a6ad : Cond.static yJ1_canEncode_9a6ad ∈ lw_ok := wd_876
theorem wd_875 : Cond.methodLink "java/lang/StringLatin1" (88 : Nat) ({ cls := "java/lang/StringLatin1", name := "canEncode", desc := "(I)Z" } : MethodName) ∈ lw_ok := lw_ok_mem (tb_3 _ (List.mem_of_getElem? (i := 57) (by decide +kernel))) rfl
theorem cs_J1_88 : CSW RJ1 88 yJ1_canEncode_9a6ad cJ1_canEncode_9a6ad 1 (some .boolean) 1 := ⟨wd_875, wt_J1_canEncode_9a6ad, wi_J1_canEncode_9a6ad, wc_J1_canEncode_9a6ad, wn_J1_canEncode_9a6ad, wp_J1_canEncode_9a6ad⟩
theorem wd_878 : Cond.methodLink "java/lang/StringLatin1" (92 : Nat) ({ cls := "java/lang/Math", name := "max", desc := "(II)I" } : MethodName) ∈ lw_ok := lw_ok_mem (tb_3 _ (List.mem_of_getElem? (i := 60) (by decide +kernel))) rfl
theorem cs_J1_92 : CSW RJ1 92 yJ9_max_7cf53 cJ9_max_7cf53 2 (some .int) 2 := ⟨wd_878, wt_J9_max_7cf53, wi_J9_max_7cf53, wc_J9_max_7cf53, wn_J9_max_7cf53, wp_J9_max_7cf53⟩
theorem wd_882 : Cond.code ({ cls := "java/lang/StringLatin1", name := "indexOfChar", desc := "([BIII)I" } : MethodName) prog_22_method_23_code (6 : Nat) (Option.some .int) ∈ lw_ok := lw_ok_mem (tb_3 _ (List.mem_of_getElem? (i := 64) rfl)) rfl
theorem wc_J1_indexOfChar_4cfef : Cond.code yJ1_indexOfChar_4cfef cJ1_indexOfChar_4cfef 6 (some .int) ∈ lw_ok := wd_882
theorem wi_J1_indexOfChar_4cfef : Cond.initialized yJ1_indexOfChar_4cfef.cls ∈ lw_ok := wd_119
theorem wn_J1_indexOfChar_4cfef : notMH yJ1_indexOfChar_4cfef := ⟨by decide, by decide⟩
theorem wp_J1_indexOfChar_4cfef : (parseMethodDescriptor yJ1_indexOfChar_4cfef.desc).map (fun d => d.parameters.length) = some 4 := by decide +kernel
theorem wd_881 : Cond.static ({ cls := "java/lang/StringLatin1", name := "indexOfChar", desc := "([BIII)I" } : MethodName) ∈ lw_ok := lw_ok_mem (tb_3 _ (List.mem_of_getElem? (i := 63) (by decide +kernel))) rfl
theorem wt_J1_indexOfChar_4cfef : Cond.static yJ1_indexOfChar_4cfef ∈ lw_ok := wd_881
theorem wd_880 : Cond.methodLink "java/lang/StringLatin1" (95 : Nat) ({ cls := "java/lang/StringLatin1", name := "indexOfChar", desc := "([BIII)I" } : MethodName) ∈ lw_ok := lw_ok_mem (tb_3 _ (List.mem_of_getElem? (i := 62) (by decide +kernel))) rfl
theorem cs_J1_95 : CSW RJ1 95 yJ1_indexOfChar_4cfef cJ1_indexOfChar_4cfef 6 (some .int) 4 := ⟨wd_880, wt_J1_indexOfChar_4cfef, wi_J1_indexOfChar_4cfef, wc_J1_indexOfChar_4cfef, wn_J1_indexOfChar_4cfef, wp_J1_indexOfChar_4cfef⟩
theorem wd_897 : Cond.code ({ cls := "java/lang/StringUTF16", name := "length", desc := "([B)I" } : MethodName) prog_23_method_6_code (1 : Nat) (Option.some .int) ∈ lw_ok := lw_ok_mem (tb_3 _ (List.mem_of_getElem? (i := 79) rfl)) rfl
theorem wc_J2_length_9d52b : Cond.code yJ2_length_9d52b cJ2_length_9d52b 1 (some .int) ∈ lw_ok := wd_897
theorem wi_J2_length_9d52b : Cond.initialized yJ2_length_9d52b.cls ∈ lw_ok := wd_120
theorem wn_J2_length_9d52b : notMH yJ2_length_9d52b := ⟨by decide, by decide⟩
theorem wp_J2_length_9d52b : (parseMethodDescriptor yJ2_length_9d52b.desc).map (fun d => d.parameters.length) = some 1 := by decide +kernel
theorem wd_896 : Cond.static ({ cls := "java/lang/StringUTF16", name := "length", desc := "([B)I" } : MethodName) ∈ lw_ok := lw_ok_mem (tb_3 _ (List.mem_of_getElem? (i := 78) (by decide +kernel))) rfl
theorem wt_J2_length_9d52b : Cond.static yJ2_length_9d52b ∈ lw_ok := wd_896
theorem wd_895 : Cond.methodLink "java/lang/StringUTF16" (48 : Nat) ({ cls := "java/lang/StringUTF16", name := "length", desc := "([B)I" } : MethodName) ∈ lw_ok := lw_ok_mem (tb_3 _ (List.mem_of_getElem? (i := 77) (by decide +kernel))) rfl
theorem cs_J2_48 : CSW RJ2 48 yJ2_length_9d52b cJ2_length_9d52b 1 (some .int) 1 := ⟨wd_895, wt_J2_length_9d52b, wi_J2_length_9d52b, wc_J2_length_9d52b, wn_J2_length_9d52b, wp_J2_length_9d52b⟩
theorem wd_1049 : Cond.code ({ cls := "java/lang/StringUTF16", name := "checkIndex", desc := "(I[B)V" } : MethodName) prog_23_method_91_code (2 : Nat) none ∈ lw_ok := lw_ok_mem (tb_3 _ (List.mem_of_getElem? (i := 231) rfl)) rfl
theorem wc_J2_checkIndex_2214a : Cond.code yJ2_checkIndex_2214a cJ2_checkIndex_2214a 2 none ∈ lw_ok := wd_1049
theorem wi_J2_checkIndex_2214a : Cond.initialized yJ2_checkIndex_2214a.cls ∈ lw_ok := wd_120
theorem wn_J2_checkIndex_2214a : notMH yJ2_checkIndex_2214a := ⟨by decide, by decide⟩
theorem wp_J2_checkIndex_2214a : (parseMethodDescriptor yJ2_checkIndex_2214a.desc).map (fun d => d.parameters.length) = some 2 := by decide +kernel
theorem wd_1048 : Cond.static ({ cls := "java/lang/StringUTF16", name := "checkIndex", desc := "(I[B)V" } : MethodName) ∈ lw_ok := lw_ok_mem (tb_3 _ (List.mem_of_getElem? (i := 230) (by decide +kernel))) rfl
theorem wt_J2_checkIndex_2214a : Cond.static yJ2_checkIndex_2214a ∈ lw_ok := wd_1048
theorem wd_1047 : Cond.methodLink "java/lang/StringUTF16" (67 : Nat) ({ cls := "java/lang/StringUTF16", name := "checkIndex", desc := "(I[B)V" } : MethodName) ∈ lw_ok := lw_ok_mem (tb_3 _ (List.mem_of_getElem? (i := 229) (by decide +kernel))) rfl
theorem cs_J2_67 : CSW RJ2 67 yJ2_checkIndex_2214a cJ2_checkIndex_2214a 2 none 2 := ⟨wd_1047, wt_J2_checkIndex_2214a, wi_J2_checkIndex_2214a, wc_J2_checkIndex_2214a, wn_J2_checkIndex_2214a, wp_J2_checkIndex_2214a⟩
theorem wd_911 : Cond.code ({ cls := "java/lang/StringUTF16", name := "getChar", desc := "([BI)C" } : MethodName) prog_23_method_5_code (2 : Nat) (Option.some .char) ∈ lw_ok := lw_ok_mem (tb_3 _ (List.mem_of_getElem? (i := 93) rfl)) rfl
theorem wc_J2_getChar_3b067 : Cond.code yJ2_getChar_3b067 cJ2_getChar_3b067 2 (some .char) ∈ lw_ok := wd_911
theorem wi_J2_getChar_3b067 : Cond.initialized yJ2_getChar_3b067.cls ∈ lw_ok := wd_120
theorem wn_J2_getChar_3b067 : notMH yJ2_getChar_3b067 := ⟨by decide, by decide⟩
theorem wp_J2_getChar_3b067 : (parseMethodDescriptor yJ2_getChar_3b067.desc).map (fun d => d.parameters.length) = some 2 := by decide +kernel
theorem wd_910 : Cond.static ({ cls := "java/lang/StringUTF16", name := "getChar", desc := "([BI)C" } : MethodName) ∈ lw_ok := lw_ok_mem (tb_3 _ (List.mem_of_getElem? (i := 92) (by decide +kernel))) rfl
theorem wt_J2_getChar_3b067 : Cond.static yJ2_getChar_3b067 ∈ lw_ok := wd_910
theorem wd_909 : Cond.methodLink "java/lang/StringUTF16" (71 : Nat) ({ cls := "java/lang/StringUTF16", name := "getChar", desc := "([BI)C" } : MethodName) ∈ lw_ok := lw_ok_mem (tb_3 _ (List.mem_of_getElem? (i := 91) (by decide +kernel))) rfl
theorem cs_J2_71 : CSW RJ2 71 yJ2_getChar_3b067 cJ2_getChar_3b067 2 (some .char) 2 := ⟨wd_909, wt_J2_getChar_3b067, wi_J2_getChar_3b067, wc_J2_getChar_3b067, wn_J2_getChar_3b067, wp_J2_getChar_3b067⟩
theorem wd_894 : Cond.code ({ cls := "java/lang/StringUTF16", name := "checkBoundsBeginEnd", desc := "(II[B)V" } : MethodName) prog_23_method_93_code (3 : Nat) none ∈ lw_ok := lw_ok_mem (tb_3 _ (List.mem_of_getElem? (i := 76) rfl)) rfl
theorem wc_J2_checkBoundsBeginEnd_d044e : Cond.code yJ2_checkBoundsBeginEnd_d044e cJ2_checkBoundsBeginEnd_d044e 3 none ∈ lw_ok := wd_894
theorem wi_J2_checkBoundsBeginEnd_d044e : Cond.initialized yJ2_checkBoundsBeginEnd_d044e.cls ∈ lw_ok := wd_120
theorem wn_J2_checkBoundsBeginEnd_d044e : notMH yJ2_checkBoundsBeginEnd_d044e := ⟨by decide, by decide⟩
theorem wp_J2_checkBoundsBeginEnd_d044e : (parseMethodDescriptor yJ2_checkBoundsBeginEnd_d044e.desc).map (fun d => d.parameters.length) = some 3 := by decide +kernel
theorem wd_893 : Cond.static ({ cls := "java/lang/StringUTF16", name := "checkBoundsBeginEnd", desc := "(II[B)V" } : MethodName) ∈ lw_ok := lw_ok_mem (tb_3 _ (List.mem_of_getElem? (i := 75) (by decide +kernel))) rfl
theorem wt_J2_checkBoundsBeginEnd_d044e : Cond.static yJ2_checkBoundsBeginEnd_d044e ∈ lw_ok := wd_893
theorem wd_892 : Cond.methodLink "java/lang/StringUTF16" (96 : Nat) ({ cls := "java/lang/StringUTF16", name := "checkBoundsBeginEnd", desc := "(II[B)V" } : MethodName) ∈ lw_ok := lw_ok_mem (tb_3 _ (List.mem_of_getElem? (i := 74) (by decide +kernel))) rfl
theorem cs_J2_96 : CSW RJ2 96 yJ2_checkBoundsBeginEnd_d044e cJ2_checkBoundsBeginEnd_d044e 3 none 3 := ⟨wd_892, wt_J2_checkBoundsBeginEnd_d044e, wi_J2_checkBoundsBeginEnd_d044e, wc_J2_checkBoundsBeginEnd_d044e, wn_J2_checkBoundsBeginEnd_d044e, wp_J2_checkBoundsBeginEnd_d044e⟩
theorem wd_926 : Cond.code ({ cls := "java/lang/Character", name := "highSurrogate", desc := "(I)C" } : MethodName) prog_16_method_28_code (1 : Nat) (Option.some .char) ∈ lw_ok := lw_ok_mem (tb_3 _ (List.mem_of_getElem? (i := 108) rfl)) rfl
theorem wc_J11_highSurrogate_5068e : Cond.code yJ11_highSurrogate_5068e cJ11_highSurrogate_5068e 1 (some .char) ∈ lw_ok := wd_926
theorem wd_121 : Cond.initialized "java/lang/Character" ∈ lw_ok := lw_ok_mem (tb_0 _ (List.mem_of_getElem? (i := 23) (by decide +kernel))) rfl
theorem wi_J11_highSurrogate_5068e : Cond.initialized yJ11_highSurrogate_5068e.cls ∈ lw_ok := wd_121
theorem wn_J11_highSurrogate_5068e : notMH yJ11_highSurrogate_5068e := ⟨by decide, by decide⟩
theorem wp_J11_highSurrogate_5068e : (parseMethodDescriptor yJ11_highSurrogate_5068e.desc).map (fun d => d.parameters.length) = some 1 := by decide +kernel
theorem wd_925 : Cond.static ({ cls := "java/lang/Character", name := "highSurrogate", desc := "(I)C" } : MethodName) ∈ lw_ok := lw_ok_mem (tb_3 _ (List.mem_of_getElem? (i := 107) (by decide +kernel))) rfl
theorem wt_J11_highSurrogate_5068e : Cond.static yJ11_highSurrogate_5068e ∈ lw_ok := wd_925
theorem wd_924 : Cond.methodLink "java/lang/StringUTF16" (157 : Nat) ({ cls := "java/lang/Character", name := "highSurrogate", desc := "(I)C" } : MethodName) ∈ lw_ok := lw_ok_mem (tb_3 _ (List.mem_of_getElem? (i := 106) (by decide +kernel))) rfl
theorem cs_J2_157 : CSW RJ2 157 yJ11_highSurrogate_5068e cJ11_highSurrogate_5068e 1 (some .char) 1 := ⟨wd_924, wt_J11_highSurrogate_5068e, wi_J11_highSurrogate_5068e, wc_J11_highSurrogate_5068e, wn_J11_highSurrogate_5068e, wp_J11_highSurrogate_5068e⟩
theorem wd_930 : Cond.code ({ cls := "java/lang/Character", name := "lowSurrogate", desc := "(I)C" } : MethodName) prog_16_method_29_code (1 : Nat) (Option.some .char) ∈ lw_ok := lw_ok_mem (tb_3 _ (List.mem_of_getElem? (i := 112) rfl)) rfl
theorem wc_J11_lowSurrogate_5068e : Cond.code yJ11_lowSurrogate_5068e cJ11_lowSurrogate_5068e 1 (some .char) ∈ lw_ok := wd_930
theorem wi_J11_lowSurrogate_5068e : Cond.initialized yJ11_lowSurrogate_5068e.cls ∈ lw_ok := wd_121
theorem wn_J11_lowSurrogate_5068e : notMH yJ11_lowSurrogate_5068e := ⟨by decide, by decide⟩
theorem wp_J11_lowSurrogate_5068e : (parseMethodDescriptor yJ11_lowSurrogate_5068e.desc).map (fun d => d.parameters.length) = some 1 := by decide +kernel
theorem wd_929 : Cond.static ({ cls := "java/lang/Character", name := "lowSurrogate", desc := "(I)C" } : MethodName) ∈ lw_ok := lw_ok_mem (tb_3 _ (List.mem_of_getElem? (i := 111) (by decide +kernel))) rfl
theorem wt_J11_lowSurrogate_5068e : Cond.static yJ11_lowSurrogate_5068e ∈ lw_ok := wd_929
theorem wd_928 : Cond.methodLink "java/lang/StringUTF16" (161 : Nat) ({ cls := "java/lang/Character", name := "lowSurrogate", desc := "(I)C" } : MethodName) ∈ lw_ok := lw_ok_mem (tb_3 _ (List.mem_of_getElem? (i := 110) (by decide +kernel))) rfl
theorem cs_J2_161 : CSW RJ2 161 yJ11_lowSurrogate_5068e cJ11_lowSurrogate_5068e 1 (some .char) 1 := ⟨wd_928, wt_J11_lowSurrogate_5068e, wi_J11_lowSurrogate_5068e, wc_J11_lowSurrogate_5068e, wn_J11_lowSurrogate_5068e, wp_J11_lowSurrogate_5068e⟩
theorem wd_923 : Cond.code ({ cls := "java/lang/Character", name := "isValidCodePoint", desc := "(I)Z" } : MethodName) prog_16_method_11_code (2 : Nat) (Option.some .boolean) ∈ lw_ok := lw_ok_mem (tb_3 _ (List.mem_of_getElem? (i := 105) rfl)) rfl
theorem wc_J11_isValidCodePoint_9a6ad : Cond.code yJ11_isValidCodePoint_9a6ad cJ11_isValidCodePoint_9a6ad 2 (some .boolean) ∈ lw_ok := wd_923
theorem wi_J11_isValidCodePoint_9a6ad : Cond.initialized yJ11_isValidCodePoint_9a6ad.cls ∈ lw_ok := wd_121
theorem wn_J11_isValidCodePoint_9a6ad : notMH yJ11_isValidCodePoint_9a6ad := ⟨by decide, by decide⟩
theorem wp_J11_isValidCodePoint_9a6ad : (parseMethodDescriptor yJ11_isValidCodePoint_9a6ad.desc).map (fun d => d.parameters.length) = some 1 := by decide +kernel
theorem wd_922 : Cond.static ({ cls := "java/lang/Character", name := "isValidCodePoint", desc := "(I)Z" } : MethodName) ∈ lw_ok := lw_ok_mem (tb_3 _ (List.mem_of_getElem? (i := 104) (by decide +kernel))) rfl
theorem wt_J11_isValidCodePoint_9a6ad : Cond.static yJ11_isValidCodePoint_9a6ad ∈ lw_ok := wd_922
theorem wd_921 : Cond.methodLink "java/lang/StringUTF16" (164 : Nat) ({ cls := "java/lang/Character", name := "isValidCodePoint", desc := "(I)Z" } : MethodName) ∈ lw_ok := lw_ok_mem (tb_3 _ (List.mem_of_getElem? (i := 103) (by decide +kernel))) rfl
theorem cs_J2_164 : CSW RJ2 164 yJ11_isValidCodePoint_9a6ad cJ11_isValidCodePoint_9a6ad 2 (some .boolean) 1 := ⟨wd_921, wt_J11_isValidCodePoint_9a6ad, wi_J11_isValidCodePoint_9a6ad, wc_J11_isValidCodePoint_9a6ad, wn_J11_isValidCodePoint_9a6ad, wp_J11_isValidCodePoint_9a6ad⟩
theorem wd_887 : Cond.methodLink "java/lang/StringUTF16" (183 : Nat) ({ cls := "java/lang/Math", name := "min", desc := "(II)I" } : MethodName) ∈ lw_ok := lw_ok_mem (tb_3 _ (List.mem_of_getElem? (i := 69) (by decide +kernel))) rfl
theorem cs_J2_183 : CSW RJ2 183 yJ9_min_7cf53 cJ9_min_7cf53 2 (some .int) 2 := ⟨wd_887, wt_J9_min_7cf53, wi_J9_min_7cf53, wc_J9_min_7cf53, wn_J9_min_7cf53, wp_J9_min_7cf53⟩
theorem wd_886 : Cond.methodLink "java/lang/StringUTF16" (224 : Nat) ({ cls := "java/lang/Math", name := "max", desc := "(II)I" } : MethodName) ∈ lw_ok := lw_ok_mem (tb_3 _ (List.mem_of_getElem? (i := 68) (by decide +kernel))) rfl
theorem cs_J2_224 : CSW RJ2 224 yJ9_max_7cf53 cJ9_max_7cf53 2 (some .int) 2 := ⟨wd_886, wt_J9_max_7cf53, wi_J9_max_7cf53, wc_J9_max_7cf53, wn_J9_max_7cf53, wp_J9_max_7cf53⟩
theorem wd_891 : Cond.code ({ cls := "java/lang/StringUTF16", name := "indexOfChar", desc := "([BIII)I" } : MethodName) prog_23_method_47_code (4 : Nat) (Option.some .int) ∈ lw_ok := lw_ok_mem (tb_3 _ (List.mem_of_getElem? (i := 73) rfl)) rfl
theorem wc_J2_indexOfChar_4cfef : Cond.code yJ2_indexOfChar_4cfef cJ2_indexOfChar_4cfef 4 (some .int) ∈ lw_ok := wd_891
theorem wi_J2_indexOfChar_4cfef : Cond.initialized yJ2_indexOfChar_4cfef.cls ∈ lw_ok := wd_120
theorem wn_J2_indexOfChar_4cfef : notMH yJ2_indexOfChar_4cfef := ⟨by decide, by decide⟩
theorem wp_J2_indexOfChar_4cfef : (parseMethodDescriptor yJ2_indexOfChar_4cfef.desc).map (fun d => d.parameters.length) = some 4 := by decide +kernel
theorem wd_890 : Cond.static ({ cls := "java/lang/StringUTF16", name := "indexOfChar", desc := "([BIII)I" } : MethodName) ∈ lw_ok := lw_ok_mem (tb_3 _ (List.mem_of_getElem? (i := 72) (by decide +kernel))) rfl
theorem wt_J2_indexOfChar_4cfef : Cond.static yJ2_indexOfChar_4cfef ∈ lw_ok := wd_890
theorem wd_889 : Cond.methodLink "java/lang/StringUTF16" (228 : Nat) ({ cls := "java/lang/StringUTF16", name := "indexOfChar", desc := "([BIII)I" } : MethodName) ∈ lw_ok := lw_ok_mem (tb_3 _ (List.mem_of_getElem? (i := 71) (by decide +kernel))) rfl
theorem cs_J2_228 : CSW RJ2 228 yJ2_indexOfChar_4cfef cJ2_indexOfChar_4cfef 4 (some .int) 4 := ⟨wd_889, wt_J2_indexOfChar_4cfef, wi_J2_indexOfChar_4cfef, wc_J2_indexOfChar_4cfef, wn_J2_indexOfChar_4cfef, wp_J2_indexOfChar_4cfef⟩
theorem wd_920 : Cond.code ({ cls := "java/lang/StringUTF16", name := "indexOfSupplementary", desc := "([BIII)I" } : MethodName) prog_23_method_49_code (7 : Nat) (Option.some .int) ∈ lw_ok := lw_ok_mem (tb_3 _ (List.mem_of_getElem? (i := 102) rfl)) rfl
theorem wc_J2_indexOfSupplementary_4cfef : Cond.code yJ2_indexOfSupplementary_4cfef cJ2_indexOfSupplementary_4cfef 7 (some .int) ∈ lw_ok := wd_920
theorem wi_J2_indexOfSupplementary_4cfef : Cond.initialized yJ2_indexOfSupplementary_4cfef.cls ∈ lw_ok := wd_120
theorem wn_J2_indexOfSupplementary_4cfef : notMH yJ2_indexOfSupplementary_4cfef := ⟨by decide, by decide⟩
theorem wp_J2_indexOfSupplementary_4cfef : (parseMethodDescriptor yJ2_indexOfSupplementary_4cfef.desc).map (fun d => d.parameters.length) = some 4 := by decide +kernel
theorem wd_919 : Cond.static ({ cls := "java/lang/StringUTF16", name := "indexOfSupplementary", desc := "([BIII)I" } : MethodName) ∈ lw_ok := lw_ok_mem (tb_3 _ (List.mem_of_getElem? (i := 101) (by decide +kernel))) rfl
theorem wt_J2_indexOfSupplementary_4cfef : Cond.static yJ2_indexOfSupplementary_4cfef ∈ lw_ok := wd_919
theorem wd_918 : Cond.methodLink "java/lang/StringUTF16" (232 : Nat) ({ cls := "java/lang/StringUTF16", name := "indexOfSupplementary", desc := "([BIII)I" } : MethodName) ∈ lw_ok := lw_ok_mem (tb_3 _ (List.mem_of_getElem? (i := 100) (by decide +kernel))) rfl
theorem cs_J2_232 : CSW RJ2 232 yJ2_indexOfSupplementary_4cfef cJ2_indexOfSupplementary_4cfef 7 (some .int) 4 := ⟨wd_918, wt_J2_indexOfSupplementary_4cfef, wi_J2_indexOfSupplementary_4cfef, wc_J2_indexOfSupplementary_4cfef, wn_J2_indexOfSupplementary_4cfef, wp_J2_indexOfSupplementary_4cfef⟩
theorem wd_900 : Cond.code ({ cls := "java/lang/String", name := "checkBoundsBeginEnd", desc := "(III)V" } : MethodName) prog_21_method_158_code (3 : Nat) none ∈ lw_ok := lw_ok_mem (tb_3 _ (List.mem_of_getElem? (i := 82) rfl)) rfl
theorem wc_J0_checkBoundsBeginEnd_23922 : Cond.code yJ0_checkBoundsBeginEnd_23922 cJ0_checkBoundsBeginEnd_23922 3 none ∈ lw_ok := wd_900
theorem wi_J0_checkBoundsBeginEnd_23922 : Cond.initialized yJ0_checkBoundsBeginEnd_23922.cls ∈ lw_ok := wd_118
theorem wn_J0_checkBoundsBeginEnd_23922 : notMH yJ0_checkBoundsBeginEnd_23922 := ⟨by decide, by decide⟩
theorem wp_J0_checkBoundsBeginEnd_23922 : (parseMethodDescriptor yJ0_checkBoundsBeginEnd_23922.desc).map (fun d => d.parameters.length) = some 3 := by decide +kernel
theorem wd_899 : Cond.static ({ cls := "java/lang/String", name := "checkBoundsBeginEnd", desc := "(III)V" } : MethodName) ∈ lw_ok := lw_ok_mem (tb_3 _ (List.mem_of_getElem? (i := 81) (by decide +kernel))) rfl
theorem wt_J0_checkBoundsBeginEnd_23922 : Cond.static yJ0_checkBoundsBeginEnd_23922 ∈ lw_ok := wd_899
theorem wd_898 : Cond.methodLink "java/lang/StringUTF16" (241 : Nat) ({ cls := "java/lang/String", name := "checkBoundsBeginEnd", desc := "(III)V" } : MethodName) ∈ lw_ok := lw_ok_mem (tb_3 _ (List.mem_of_getElem? (i := 80) (by decide +kernel))) rfl
theorem cs_J2_241 : CSW RJ2 241 yJ0_checkBoundsBeginEnd_23922 cJ0_checkBoundsBeginEnd_23922 3 none 3 := ⟨wd_898, wt_J0_checkBoundsBeginEnd_23922, wi_J0_checkBoundsBeginEnd_23922, wc_J0_checkBoundsBeginEnd_23922, wn_J0_checkBoundsBeginEnd_23922, wp_J0_checkBoundsBeginEnd_23922⟩
theorem wd_908 : Cond.code ({ cls := "java/lang/StringUTF16", name := "indexOfCharUnsafe", desc := "([BIII)I" } : MethodName) prog_23_method_48_code (5 : Nat) (Option.some .int) ∈ lw_ok := lw_ok_mem (tb_3 _ (List.mem_of_getElem? (i := 90) rfl)) rfl
theorem wc_J2_indexOfCharUnsafe_4cfef : Cond.code yJ2_indexOfCharUnsafe_4cfef cJ2_indexOfCharUnsafe_4cfef 5 (some .int) ∈ lw_ok := wd_908
theorem wi_J2_indexOfCharUnsafe_4cfef : Cond.initialized yJ2_indexOfCharUnsafe_4cfef.cls ∈ lw_ok := wd_120
theorem wn_J2_indexOfCharUnsafe_4cfef : notMH yJ2_indexOfCharUnsafe_4cfef := ⟨by decide, by decide⟩
theorem wp_J2_indexOfCharUnsafe_4cfef : (parseMethodDescriptor yJ2_indexOfCharUnsafe_4cfef.desc).map (fun d => d.parameters.length) = some 4 := by decide +kernel
theorem wd_907 : Cond.static ({ cls := "java/lang/StringUTF16", name := "indexOfCharUnsafe", desc := "([BIII)I" } : MethodName) ∈ lw_ok := lw_ok_mem (tb_3 _ (List.mem_of_getElem? (i := 89) (by decide +kernel))) rfl
theorem wt_J2_indexOfCharUnsafe_4cfef : Cond.static yJ2_indexOfCharUnsafe_4cfef ∈ lw_ok := wd_907
theorem wd_906 : Cond.methodLink "java/lang/StringUTF16" (244 : Nat) ({ cls := "java/lang/StringUTF16", name := "indexOfCharUnsafe", desc := "([BIII)I" } : MethodName) ∈ lw_ok := lw_ok_mem (tb_3 _ (List.mem_of_getElem? (i := 88) (by decide +kernel))) rfl
theorem cs_J2_244 : CSW RJ2 244 yJ2_indexOfCharUnsafe_4cfef cJ2_indexOfCharUnsafe_4cfef 5 (some .int) 4 := ⟨wd_906, wt_J2_indexOfCharUnsafe_4cfef, wi_J2_indexOfCharUnsafe_4cfef, wc_J2_indexOfCharUnsafe_4cfef, wn_J2_indexOfCharUnsafe_4cfef, wp_J2_indexOfCharUnsafe_4cfef⟩
theorem wd_1050 : Cond.methodLink "java/lang/StringUTF16" (414 : Nat) ({ cls := "java/lang/String", name := "checkIndex", desc := "(II)V" } : MethodName) ∈ lw_ok := lw_ok_mem (tb_3 _ (List.mem_of_getElem? (i := 232) (by decide +kernel))) rfl
theorem cs_J2_414 : CSW RJ2 414 yJ0_checkIndex_df160 cJ0_checkIndex_df160 2 none 2 := ⟨wd_1050, wt_J0_checkIndex_df160, wi_J0_checkIndex_df160, wc_J0_checkIndex_df160, wn_J0_checkIndex_df160, wp_J0_checkIndex_df160⟩
theorem wd_144 : Cond.code ({ cls := "java/util/AbstractCollection", name := "<init>", desc := "()V" } : MethodName) prog_25_method_1_code (1 : Nat) none ∈ lw_ok := lw_ok_mem (tb_0 _ (List.mem_of_getElem? (i := 46) rfl)) rfl
theorem wc_Jxa1e45_init_da8c8 : Cond.code yJxa1e45_init_da8c8 cJxa1e45_init_da8c8 1 none ∈ lw_ok := wd_144
theorem wd_100 : Cond.initialized "java/util/AbstractCollection" ∈ lw_ok := lw_ok_mem (tb_0 _ (List.mem_of_getElem? (i := 2) (by decide +kernel))) rfl
theorem wi_Jxa1e45_init_da8c8 : Cond.initialized yJxa1e45_init_da8c8.cls ∈ lw_ok := wd_100
theorem wn_Jxa1e45_init_da8c8 : notMH yJxa1e45_init_da8c8 := ⟨by decide, by decide⟩
theorem wp_Jxa1e45_init_da8c8 : (parseMethodDescriptor yJxa1e45_init_da8c8.desc).map (fun d => d.parameters.length) = some 0 := by decide +kernel
theorem wd_143 : Cond.instanceMethod ({ cls := "java/util/AbstractCollection", name := "<init>", desc := "()V" } : MethodName) ∈ lw_ok := lw_ok_mem (tb_0 _ (List.mem_of_getElem? (i := 45) (by decide +kernel))) rfl
theorem wm_Jxa1e45_init_da8c8 : Cond.instanceMethod yJxa1e45_init_da8c8 ∈ lw_ok := wd_143
theorem wd_142 : Cond.methodLink "java/util/AbstractList" (1 : Nat) ({ cls := "java/util/AbstractCollection", name := "<init>", desc := "()V" } : MethodName) ∈ lw_ok := lw_ok_mem (tb_0 _ (List.mem_of_getElem? (i := 44) (by decide +kernel))) rfl
theorem ci_Jxc12de_1 : CIW RJxc12de 1 yJxa1e45_init_da8c8 cJxa1e45_init_da8c8 1 0 := ⟨wd_142, wm_Jxa1e45_init_da8c8, wi_Jxa1e45_init_da8c8, wc_Jxa1e45_init_da8c8, rfl, wn_Jxa1e45_init_da8c8, wp_Jxa1e45_init_da8c8⟩
theorem wd_141 : Cond.code ({ cls := "java/util/AbstractList", name := "<init>", desc := "()V" } : MethodName) prog_26_method_1_code (1 : Nat) none ∈ lw_ok := lw_ok_mem (tb_0 _ (List.mem_of_getElem? (i := 43) rfl)) rfl
theorem wc_Jxc12de_init_da8c8 : Cond.code yJxc12de_init_da8c8 cJxc12de_init_da8c8 1 none ∈ lw_ok := wd_141
theorem wd_101 : Cond.initialized "java/util/AbstractList" ∈ lw_ok := lw_ok_mem (tb_0 _ (List.mem_of_getElem? (i := 3) (by decide +kernel))) rfl
theorem wi_Jxc12de_init_da8c8 : Cond.initialized yJxc12de_init_da8c8.cls ∈ lw_ok := wd_101
theorem wn_Jxc12de_init_da8c8 : notMH yJxc12de_init_da8c8 := ⟨by decide, by decide⟩
theorem wp_Jxc12de_init_da8c8 : (parseMethodDescriptor yJxc12de_init_da8c8.desc).map (fun d => d.parameters.length) = some 0 := by decide +kernel
theorem wd_140 : Cond.instanceMethod ({ cls := "java/util/AbstractList", name := "<init>", desc := "()V" } : MethodName) ∈ lw_ok := lw_ok_mem (tb_0 _ (List.mem_of_getElem? (i := 42) (by decide +kernel))) rfl
theorem wm_Jxc12de_init_da8c8 : Cond.instanceMethod yJxc12de_init_da8c8 ∈ lw_ok := wd_140
theorem wd_139 : Cond.methodLink "java/util/ArrayList" (1 : Nat) ({ cls := "java/util/AbstractList", name := "<init>", desc := "()V" } : MethodName) ∈ lw_ok := lw_ok_mem (tb_0 _ (List.mem_of_getElem? (i := 41) (by decide +kernel))) rfl
theorem ci_Jx4a65c_1 : CIW RJx4a65c 1 yJxc12de_init_da8c8 cJxc12de_init_da8c8 1 0 := ⟨wd_139, wm_Jxc12de_init_da8c8, wi_Jxc12de_init_da8c8, wc_Jxc12de_init_da8c8, rfl, wn_Jxc12de_init_da8c8, wp_Jxc12de_init_da8c8⟩
theorem wd_464 : Cond.code ({ cls := "java/util/Arrays", name := "copyOf", desc := "([Ljava/lang/Object;I)[Ljava/lang/Object;" } : MethodName) prog_28_method_119_code (2 : Nat) (Option.some (.array (.object "java/lang/Object"))) ∈ lw_ok := lw_ok_mem (tb_1 _ (List.mem_of_getElem? (i := 126) rfl)) rfl
theorem wc_J7_copyOf_1904c : Cond.code yJ7_copyOf_1904c cJ7_copyOf_1904c 2 (some (.array (.object "java/lang/Object"))) ∈ lw_ok := wd_464
theorem wi_J7_copyOf_1904c : Cond.initialized yJ7_copyOf_1904c.cls ∈ lw_ok := wd_112
theorem wn_J7_copyOf_1904c : notMH yJ7_copyOf_1904c := ⟨by decide, by decide⟩
theorem wp_J7_copyOf_1904c : (parseMethodDescriptor yJ7_copyOf_1904c.desc).map (fun d => d.parameters.length) = some 2 := by decide +kernel
theorem wd_463 : Cond.static ({ cls := "java/util/Arrays", name := "copyOf", desc := "([Ljava/lang/Object;I)[Ljava/lang/Object;" } : MethodName) ∈ lw_ok := lw_ok_mem (tb_1 _ (List.mem_of_getElem? (i := 125) (by decide +kernel))) rfl
theorem wt_J7_copyOf_1904c : Cond.static yJ7_copyOf_1904c ∈ lw_ok := wd_463
theorem wd_462 : Cond.methodLink "java/util/ArrayList" (66 : Nat) ({ cls := "java/util/Arrays", name := "copyOf", desc := "([Ljava/lang/Object;I)[Ljava/lang/Object;" } : MethodName) ∈ lw_ok := lw_ok_mem (tb_1 _ (List.mem_of_getElem? (i := 124) (by decide +kernel))) rfl
theorem cs_Jx4a65c_66 : CSW RJx4a65c 66 yJ7_copyOf_1904c cJ7_copyOf_1904c 2 (some (.array (.object "java/lang/Object"))) 2 := ⟨wd_462, wt_J7_copyOf_1904c, wi_J7_copyOf_1904c, wc_J7_copyOf_1904c, wn_J7_copyOf_1904c, wp_J7_copyOf_1904c⟩
theorem wd_453 : Cond.code ({ cls := "java/util/ArrayList", name := "grow", desc := "(I)[Ljava/lang/Object;" } : MethodName) prog_27_method_6_code (4 : Nat) (Option.some (.array (.object "java/lang/Object"))) ∈ lw_ok := lw_ok_mem (tb_1 _ (List.mem_of_getElem? (i := 115) rfl)) rfl
theorem wc_Jx4a65c_grow_92f84 : Cond.code yJx4a65c_grow_92f84 cJx4a65c_grow_92f84 4 (some (.array (.object "java/lang/Object"))) ∈ lw_ok := wd_453
theorem wi_Jx4a65c_grow_92f84 : Cond.initialized yJx4a65c_grow_92f84.cls ∈ lw_ok := wd_102
theorem wn_Jx4a65c_grow_92f84 : notMH yJx4a65c_grow_92f84 := ⟨by decide, by decide⟩
theorem wp_Jx4a65c_grow_92f84 : (parseMethodDescriptor yJx4a65c_grow_92f84.desc).map (fun d => d.parameters.length) = some 1 := by decide +kernel
theorem wd_452 : Cond.instanceMethod ({ cls := "java/util/ArrayList", name := "grow", desc := "(I)[Ljava/lang/Object;" } : MethodName) ∈ lw_ok := lw_ok_mem (tb_1 _ (List.mem_of_getElem? (i := 114) (by decide +kernel))) rfl
theorem wm_Jx4a65c_grow_92f84 : Cond.instanceMethod yJx4a65c_grow_92f84 ∈ lw_ok := wd_452
theorem wd_10 : Cond.selects "java/util/ArrayList" ⟨"java/util/ArrayList", "grow", "(I)[Ljava/lang/Object;"⟩ ⟨"java/util/ArrayList", "grow", "(I)[Ljava/lang/Object;"⟩ ∈ lw_ok := lw_ok_mem (List.mem_append_left _ (List.mem_of_getElem? (i := 10) (by decide +kernel))) rfl
theorem ws_Jx4a65c_grow_92f84 : Cond.selects yJx4a65c_grow_92f84.cls yJx4a65c_grow_92f84 yJx4a65c_grow_92f84 ∈ lw_ok := wd_10
theorem wd_450 : Cond.methodLink "java/util/ArrayList" (69 : Nat) ({ cls := "java/util/ArrayList", name := "grow", desc := "(I)[Ljava/lang/Object;" } : MethodName) ∈ lw_ok := lw_ok_mem (tb_1 _ (List.mem_of_getElem? (i := 112) (by decide +kernel))) rfl
theorem cv_Jx4a65c_69 : CVW RJx4a65c 69 yJx4a65c_grow_92f84.cls yJx4a65c_grow_92f84 cJx4a65c_grow_92f84 4 (some (.array (.object "java/lang/Object"))) 1 := ⟨wd_450, wm_Jx4a65c_grow_92f84, ws_Jx4a65c_grow_92f84, wi_Jx4a65c_grow_92f84, wc_Jx4a65c_grow_92f84, wn_Jx4a65c_grow_92f84, wp_Jx4a65c_grow_92f84⟩
theorem wd_456 : Cond.code ({ cls := "jdk/internal/util/ArraysSupport", name := "newLength", desc := "(III)I" } : MethodName) prog_34_method_27_code (4 : Nat) (Option.some .int) ∈ lw_ok := lw_ok_mem (tb_1 _ (List.mem_of_getElem? (i := 118) rfl)) rfl
theorem wc_J8_newLength_cabcc : Cond.code yJ8_newLength_cabcc cJ8_newLength_cabcc 4 (some .int) ∈ lw_ok := wd_456
theorem wd_111 : Cond.initialized "jdk/internal/util/ArraysSupport" ∈ lw_ok := lw_ok_mem (tb_0 _ (List.mem_of_getElem? (i := 13) (by decide +kernel))) rfl
theorem wi_J8_newLength_cabcc : Cond.initialized yJ8_newLength_cabcc.cls ∈ lw_ok := wd_111
theorem wn_J8_newLength_cabcc : notMH yJ8_newLength_cabcc := ⟨by decide, by decide⟩
theorem wp_J8_newLength_cabcc : (parseMethodDescriptor yJ8_newLength_cabcc.desc).map (fun d => d.parameters.length) = some 3 := by decide +kernel
theorem wd_455 : Cond.static ({ cls := "jdk/internal/util/ArraysSupport", name := "newLength", desc := "(III)I" } : MethodName) ∈ lw_ok := lw_ok_mem (tb_1 _ (List.mem_of_getElem? (i := 117) (by decide +kernel))) rfl
theorem wt_J8_newLength_cabcc : Cond.static yJ8_newLength_cabcc ∈ lw_ok := wd_455
theorem wd_454 : Cond.methodLink "java/util/ArrayList" (73 : Nat) ({ cls := "jdk/internal/util/ArraysSupport", name := "newLength", desc := "(III)I" } : MethodName) ∈ lw_ok := lw_ok_mem (tb_1 _ (List.mem_of_getElem? (i := 116) (by decide +kernel))) rfl
theorem cs_Jx4a65c_73 : CSW RJx4a65c 73 yJ8_newLength_cabcc cJ8_newLength_cabcc 4 (some .int) 3 := ⟨wd_454, wt_J8_newLength_cabcc, wi_J8_newLength_cabcc, wc_J8_newLength_cabcc, wn_J8_newLength_cabcc, wp_J8_newLength_cabcc⟩
theorem wd_493 : Cond.methodLink "java/util/ArrayList" (79 : Nat) ({ cls := "java/lang/Math", name := "max", desc := "(II)I" } : MethodName) ∈ lw_ok := lw_ok_mem (tb_1 _ (List.mem_of_getElem? (i := 155) (by decide +kernel))) rfl
theorem cs_Jx4a65c_79 : CSW RJx4a65c 79 yJ9_max_7cf53 cJ9_max_7cf53 2 (some .int) 2 := ⟨wd_493, wt_J9_max_7cf53, wi_J9_max_7cf53, wc_J9_max_7cf53, wn_J9_max_7cf53, wp_J9_max_7cf53⟩
theorem wd_350 : Cond.code ({ cls := "java/util/Objects", name := "checkIndex", desc := "(II)I" } : MethodName) prog_31_method_17_code (2 : Nat) (Option.some .int) ∈ lw_ok := lw_ok_mem (tb_1 _ (List.mem_of_getElem? (i := 12) rfl)) rfl
theorem wc_J15_checkIndex_7cf53 : Cond.code yJ15_checkIndex_7cf53 cJ15_checkIndex_7cf53 2 (some .int) ∈ lw_ok := wd_350
theorem wd_107 : Cond.initialized "java/util/Objects" ∈ lw_ok := lw_ok_mem (tb_0 _ (List.mem_of_getElem? (i := 9) (by decide +kernel))) rfl
theorem wi_J15_checkIndex_7cf53 : Cond.initialized yJ15_checkIndex_7cf53.cls ∈ lw_ok := wd_107
theorem wn_J15_checkIndex_7cf53 : notMH yJ15_checkIndex_7cf53 := ⟨by decide, by decide⟩
theorem wp_J15_checkIndex_7cf53 : (parseMethodDescriptor yJ15_checkIndex_7cf53.desc).map (fun d => d.parameters.length) = some 2 := by decide +kernel
theorem wd_349 : Cond.static ({ cls := "java/util/Objects", name := "checkIndex", desc := "(II)I" } : MethodName) ∈ lw_ok := lw_ok_mem (tb_1 _ (List.mem_of_getElem? (i := 11) (by decide +kernel))) rfl
theorem wt_J15_checkIndex_7cf53 : Cond.static yJ15_checkIndex_7cf53 ∈ lw_ok := wd_349
theorem wd_348 : Cond.methodLink "java/util/ArrayList" (118 : Nat) ({ cls := "java/util/Objects", name := "checkIndex", desc := "(II)I" } : MethodName) ∈ lw_ok := lw_ok_mem (tb_1 _ (List.mem_of_getElem? (i := 10) (by decide +kernel))) rfl
theorem cs_Jx4a65c_118 : CSW RJx4a65c 118 yJ15_checkIndex_7cf53 cJ15_checkIndex_7cf53 2 (some .int) 2 := ⟨wd_348, wt_J15_checkIndex_7cf53, wi_J15_checkIndex_7cf53, wc_J15_checkIndex_7cf53, wn_J15_checkIndex_7cf53, wp_J15_checkIndex_7cf53⟩
theorem wd_357 : Cond.code ({ cls := "java/util/ArrayList", name := "elementData", desc := "(I)Ljava/lang/Object;" } : MethodName) prog_27_method_18_code (2 : Nat) (Option.some (.object "java/lang/Object")) ∈ lw_ok := lw_ok_mem (tb_1 _ (List.mem_of_getElem? (i := 19) rfl)) rfl
theorem wc_Jx4a65c_elementData_915e3 : Cond.code yJx4a65c_elementData_915e3 cJx4a65c_elementData_915e3 2 (some (.object "java/lang/Object")) ∈ lw_ok := wd_357
theorem wi_Jx4a65c_elementData_915e3 : Cond.initialized yJx4a65c_elementData_915e3.cls ∈ lw_ok := wd_102
theorem wn_Jx4a65c_elementData_915e3 : notMH yJx4a65c_elementData_915e3 := ⟨by decide, by decide⟩
theorem wp_Jx4a65c_elementData_915e3 : (parseMethodDescriptor yJx4a65c_elementData_915e3.desc).map (fun d => d.parameters.length) = some 1 := by decide +kernel
theorem wd_355 : Cond.instanceMethod ({ cls := "java/util/ArrayList", name := "elementData", desc := "(I)Ljava/lang/Object;" } : MethodName) ∈ lw_ok := lw_ok_mem (tb_1 _ (List.mem_of_getElem? (i := 17) (by decide +kernel))) rfl
theorem wm_Jx4a65c_elementData_915e3 : Cond.instanceMethod yJx4a65c_elementData_915e3 ∈ lw_ok := wd_355
theorem wd_356 : Cond.selects "java/util/ArrayList" ({ cls := "java/util/ArrayList", name := "elementData", desc := "(I)Ljava/lang/Object;" } : MethodName) ({ cls := "java/util/ArrayList", name := "elementData", desc := "(I)Ljava/lang/Object;" } : MethodName) ∈ lw_ok := lw_ok_mem (tb_1 _ (List.mem_of_getElem? (i := 18) (by decide +kernel))) rfl
theorem ws_Jx4a65c_elementData_915e3 : Cond.selects yJx4a65c_elementData_915e3.cls yJx4a65c_elementData_915e3 yJx4a65c_elementData_915e3 ∈ lw_ok := wd_356
theorem wd_354 : Cond.methodLink "java/util/ArrayList" (123 : Nat) ({ cls := "java/util/ArrayList", name := "elementData", desc := "(I)Ljava/lang/Object;" } : MethodName) ∈ lw_ok := lw_ok_mem (tb_1 _ (List.mem_of_getElem? (i := 16) (by decide +kernel))) rfl
theorem cv_Jx4a65c_123 : CVW RJx4a65c 123 yJx4a65c_elementData_915e3.cls yJx4a65c_elementData_915e3 cJx4a65c_elementData_915e3 2 (some (.object "java/lang/Object")) 1 := ⟨wd_354, wm_Jx4a65c_elementData_915e3, ws_Jx4a65c_elementData_915e3, wi_Jx4a65c_elementData_915e3, wc_Jx4a65c_elementData_915e3, wn_Jx4a65c_elementData_915e3, wp_Jx4a65c_elementData_915e3⟩
theorem wd_449 : Cond.code ({ cls := "java/util/ArrayList", name := "grow", desc := "()[Ljava/lang/Object;" } : MethodName) prog_27_method_7_code (1 : Nat) (Option.some (.array (.object "java/lang/Object"))) ∈ lw_ok := lw_ok_mem (tb_1 _ (List.mem_of_getElem? (i := 111) rfl)) rfl
theorem wc_Jx4a65c_grow_d5877 : Cond.code yJx4a65c_grow_d5877 cJx4a65c_grow_d5877 1 (some (.array (.object "java/lang/Object"))) ∈ lw_ok := wd_449
theorem wi_Jx4a65c_grow_d5877 : Cond.initialized yJx4a65c_grow_d5877.cls ∈ lw_ok := wd_102
theorem wn_Jx4a65c_grow_d5877 : notMH yJx4a65c_grow_d5877 := ⟨by decide, by decide⟩
theorem wp_Jx4a65c_grow_d5877 : (parseMethodDescriptor yJx4a65c_grow_d5877.desc).map (fun d => d.parameters.length) = some 0 := by decide +kernel
theorem wd_448 : Cond.instanceMethod ({ cls := "java/util/ArrayList", name := "grow", desc := "()[Ljava/lang/Object;" } : MethodName) ∈ lw_ok := lw_ok_mem (tb_1 _ (List.mem_of_getElem? (i := 110) (by decide +kernel))) rfl
theorem wm_Jx4a65c_grow_d5877 : Cond.instanceMethod yJx4a65c_grow_d5877 ∈ lw_ok := wd_448
theorem wd_9 : Cond.selects "java/util/ArrayList" ⟨"java/util/ArrayList", "grow", "()[Ljava/lang/Object;"⟩ ⟨"java/util/ArrayList", "grow", "()[Ljava/lang/Object;"⟩ ∈ lw_ok := lw_ok_mem (List.mem_append_left _ (List.mem_of_getElem? (i := 9) (by decide +kernel))) rfl
theorem ws_Jx4a65c_grow_d5877 : Cond.selects yJx4a65c_grow_d5877.cls yJx4a65c_grow_d5877 yJx4a65c_grow_d5877 ∈ lw_ok := wd_9
theorem wd_446 : Cond.methodLink "java/util/ArrayList" (129 : Nat) ({ cls := "java/util/ArrayList", name := "grow", desc := "()[Ljava/lang/Object;" } : MethodName) ∈ lw_ok := lw_ok_mem (tb_1 _ (List.mem_of_getElem? (i := 108) (by decide +kernel))) rfl
theorem cv_Jx4a65c_129 : CVW RJx4a65c 129 yJx4a65c_grow_d5877.cls yJx4a65c_grow_d5877 cJx4a65c_grow_d5877 1 (some (.array (.object "java/lang/Object"))) 0 := ⟨wd_446, wm_Jx4a65c_grow_d5877, ws_Jx4a65c_grow_d5877, wi_Jx4a65c_grow_d5877, wc_Jx4a65c_grow_d5877, wn_Jx4a65c_grow_d5877, wp_Jx4a65c_grow_d5877⟩
theorem wd_445 : Cond.code ({ cls := "java/util/ArrayList", name := "add", desc := "(Ljava/lang/Object;[Ljava/lang/Object;I)V" } : MethodName) prog_27_method_24_code (4 : Nat) none ∈ lw_ok := lw_ok_mem (tb_1 _ (List.mem_of_getElem? (i := 107) rfl)) rfl
theorem wc_Jx4a65c_add_72be8 : Cond.code yJx4a65c_add_72be8 cJx4a65c_add_72be8 4 none ∈ lw_ok := wd_445
theorem wi_Jx4a65c_add_72be8 : Cond.initialized yJx4a65c_add_72be8.cls ∈ lw_ok := wd_102
theorem wn_Jx4a65c_add_72be8 : notMH yJx4a65c_add_72be8 := ⟨by decide, by decide⟩
theorem wp_Jx4a65c_add_72be8 : (parseMethodDescriptor yJx4a65c_add_72be8.desc).map (fun d => d.parameters.length) = some 3 := by decide +kernel
theorem wd_444 : Cond.instanceMethod ({ cls := "java/util/ArrayList", name := "add", desc := "(Ljava/lang/Object;[Ljava/lang/Object;I)V" } : MethodName) ∈ lw_ok := lw_ok_mem (tb_1 _ (List.mem_of_getElem? (i := 106) (by decide +kernel))) rfl
theorem wm_Jx4a65c_add_72be8 : Cond.instanceMethod yJx4a65c_add_72be8 ∈ lw_ok := wd_444
theorem wd_8 : Cond.selects "java/util/ArrayList" ⟨"java/util/ArrayList", "add", "(Ljava/lang/Object;[Ljava/lang/Object;I)V"⟩ ⟨"java/util/ArrayList", "add", "(Ljava/lang/Object;[Ljava/lang/Object;I)V"⟩ ∈ lw_ok := lw_ok_mem (List.mem_append_left _ (List.mem_of_getElem? (i := 8) (by decide +kernel))) rfl
theorem ws_Jx4a65c_add_72be8 : Cond.selects yJx4a65c_add_72be8.cls yJx4a65c_add_72be8 yJx4a65c_add_72be8 ∈ lw_ok := wd_8
theorem wd_442 : Cond.methodLink "java/util/ArrayList" (131 : Nat) ({ cls := "java/util/ArrayList", name := "add", desc := "(Ljava/lang/Object;[Ljava/lang/Object;I)V" } : MethodName) ∈ lw_ok := lw_ok_mem (tb_1 _ (List.mem_of_getElem? (i := 104) (by decide +kernel))) rfl
theorem cv_Jx4a65c_131 : CVW RJx4a65c 131 yJx4a65c_add_72be8.cls yJx4a65c_add_72be8 cJx4a65c_add_72be8 4 none 3 := ⟨wd_442, wm_Jx4a65c_add_72be8, ws_Jx4a65c_add_72be8, wi_Jx4a65c_add_72be8, wc_Jx4a65c_add_72be8, wn_Jx4a65c_add_72be8, wp_Jx4a65c_add_72be8⟩
theorem wd_485 : Cond.code ({ cls := "java/util/Arrays", name := "copyOf", desc := "([Ljava/lang/Object;ILjava/lang/Class;)[Ljava/lang/Object;" } : MethodName) prog_28_method_120_code (4 : Nat) (Option.some (.array (.object "java/lang/Object"))) ∈ lw_ok := lw_ok_mem (tb_1 _ (List.mem_of_getElem? (i := 147) rfl)) rfl
theorem wc_J7_copyOf_6403c : Cond.code yJ7_copyOf_6403c cJ7_copyOf_6403c 4 (some (.array (.object "java/lang/Object"))) ∈ lw_ok := wd_485
theorem wi_J7_copyOf_6403c : Cond.initialized yJ7_copyOf_6403c.cls ∈ lw_ok := wd_112
theorem wn_J7_copyOf_6403c : notMH yJ7_copyOf_6403c := ⟨by decide, by decide⟩
theorem wp_J7_copyOf_6403c : (parseMethodDescriptor yJ7_copyOf_6403c.desc).map (fun d => d.parameters.length) = some 3 := by decide +kernel
theorem wd_484 : Cond.static ({ cls := "java/util/Arrays", name := "copyOf", desc := "([Ljava/lang/Object;ILjava/lang/Class;)[Ljava/lang/Object;" } : MethodName) ∈ lw_ok := lw_ok_mem (tb_1 _ (List.mem_of_getElem? (i := 146) (by decide +kernel))) rfl
theorem wt_J7_copyOf_6403c : Cond.static yJ7_copyOf_6403c ∈ lw_ok := wd_484
theorem wd_483 : Cond.methodLink "java/util/Arrays" (300 : Nat) ({ cls := "java/util/Arrays", name := "copyOf", desc := "([Ljava/lang/Object;ILjava/lang/Class;)[Ljava/lang/Object;" } : MethodName) ∈ lw_ok := lw_ok_mem (tb_1 _ (List.mem_of_getElem? (i := 145) (by decide +kernel))) rfl
theorem cs_J7_300 : CSW RJ7 300 yJ7_copyOf_6403c cJ7_copyOf_6403c 4 (some (.array (.object "java/lang/Object"))) 3 := ⟨wd_483, wt_J7_copyOf_6403c, wi_J7_copyOf_6403c, wc_J7_copyOf_6403c, wn_J7_copyOf_6403c, wp_J7_copyOf_6403c⟩
theorem wd_489 : Cond.methodLink "java/util/Arrays" (304 : Nat) ({ cls := "java/lang/Math", name := "min", desc := "(II)I" } : MethodName) ∈ lw_ok := lw_ok_mem (tb_1 _ (List.mem_of_getElem? (i := 151) (by decide +kernel))) rfl
theorem cs_J7_304 : CSW RJ7 304 yJ9_min_7cf53 cJ9_min_7cf53 2 (some .int) 2 := ⟨wd_489, wt_J9_min_7cf53, wi_J9_min_7cf53, wc_J9_min_7cf53, wn_J9_min_7cf53, wp_J9_min_7cf53⟩
theorem wd_351 : Cond.methodLink "java/util/Objects" (105 : Nat) ({ cls := "jdk/internal/util/Preconditions", name := "checkIndex", desc := "(IILjava/util/function/BiFunction;)I" } : MethodName) ∈ lw_ok := lw_ok_mem (tb_1 _ (List.mem_of_getElem? (i := 13) (by decide +kernel))) rfl
theorem cs_J15_105 : CSW RJ15 105 yJ3_checkIndex_8e157 cJ3_checkIndex_8e157 3 (some .int) 3 := ⟨wd_351, wt_J3_checkIndex_8e157, wi_J3_checkIndex_8e157, wc_J3_checkIndex_8e157, wn_J3_checkIndex_8e157, wp_J3_checkIndex_8e157⟩
theorem wd_457 : Cond.methodLink "jdk/internal/util/ArraysSupport" (194 : Nat) ({ cls := "java/lang/Math", name := "max", desc := "(II)I" } : MethodName) ∈ lw_ok := lw_ok_mem (tb_1 _ (List.mem_of_getElem? (i := 119) (by decide +kernel))) rfl
theorem cs_J8_194 : CSW RJ8 194 yJ9_max_7cf53 cJ9_max_7cf53 2 (some .int) 2 := ⟨wd_457, wt_J9_max_7cf53, wi_J9_max_7cf53, wc_J9_max_7cf53, wn_J9_max_7cf53, wp_J9_max_7cf53⟩
theorem wd_461 : Cond.code ({ cls := "jdk/internal/util/ArraysSupport", name := "hugeLength", desc := "(II)I" } : MethodName) prog_34_method_28_code (3 : Nat) (Option.some .int) ∈ lw_ok := lw_ok_mem (tb_1 _ (List.mem_of_getElem? (i := 123) rfl)) rfl
theorem wc_J8_hugeLength_7cf53 : Cond.code yJ8_hugeLength_7cf53 cJ8_hugeLength_7cf53 3 (some .int) ∈ lw_ok := wd_461
theorem wi_J8_hugeLength_7cf53 : Cond.initialized yJ8_hugeLength_7cf53.cls ∈ lw_ok := wd_111
theorem wn_J8_hugeLength_7cf53 : notMH yJ8_hugeLength_7cf53 := ⟨by decide, by decide⟩
theorem wp_J8_hugeLength_7cf53 : (parseMethodDescriptor yJ8_hugeLength_7cf53.desc).map (fun d => d.parameters.length) = some 2 := by decide +kernel
theorem wd_460 : Cond.static ({ cls := "jdk/internal/util/ArraysSupport", name := "hugeLength", desc := "(II)I" } : MethodName) ∈ lw_ok := lw_ok_mem (tb_1 _ (List.mem_of_getElem? (i := 122) (by decide +kernel))) rfl
theorem wt_J8_hugeLength_7cf53 : Cond.static yJ8_hugeLength_7cf53 ∈ lw_ok := wd_460
theorem wd_459 : Cond.methodLink "jdk/internal/util/ArraysSupport" (201 : Nat) ({ cls := "jdk/internal/util/ArraysSupport", name := "hugeLength", desc := "(II)I" } : MethodName) ∈ lw_ok := lw_ok_mem (tb_1 _ (List.mem_of_getElem? (i := 121) (by decide +kernel))) rfl
theorem cs_J8_201 : CSW RJ8 201 yJ8_hugeLength_7cf53 cJ8_hugeLength_7cf53 3 (some .int) 2 := ⟨wd_459, wt_J8_hugeLength_7cf53, wi_J8_hugeLength_7cf53, wc_J8_hugeLength_7cf53, wn_J8_hugeLength_7cf53, wp_J8_hugeLength_7cf53⟩
theorem wd_164 : Cond.code ({ cls := "UtilityBoard$Reader", name := "<init>", desc := "()V" } : MethodName) prog_11_method_1_code (1 : Nat) none ∈ lw_ok := lw_ok_mem (tb_0 _ (List.mem_of_getElem? (i := 66) rfl)) rfl
theorem wc_X9_init : Cond.code yX9_init cX9_init 1 none ∈ lw_ok := wd_164
theorem wi_X9_init : Cond.initialized yX9_init.cls ∈ lw_ok := wd_103
theorem wn_X9_init : notMH yX9_init := ⟨by decide, by decide⟩
theorem wp_X9_init : (parseMethodDescriptor yX9_init.desc).map (fun d => d.parameters.length) = some 0 := by decide +kernel
theorem wd_163 : Cond.instanceMethod ({ cls := "UtilityBoard$Reader", name := "<init>", desc := "()V" } : MethodName) ∈ lw_ok := lw_ok_mem (tb_0 _ (List.mem_of_getElem? (i := 65) (by decide +kernel))) rfl
theorem wm_X9_init : Cond.instanceMethod yX9_init ∈ lw_ok := wd_163
theorem cin_X11_60 : CIN RX11 60 yX9_init "UtilityBoard" cX9_init 1 0 := ⟨by decide +kernel, wm_X9_init, wi_X9_init, wc_X9_init, rfl, wn_X9_init, wp_X9_init⟩
theorem wd_213 : Cond.code ({ cls := "UtilityBoard$Law", name := "<init>", desc := "()V" } : MethodName) prog_6_method_1_code (1 : Nat) none ∈ lw_ok := lw_ok_mem (tb_0 _ (List.mem_of_getElem? (i := 115) rfl)) rfl
theorem wc_X4_init : Cond.code yX4_init cX4_init 1 none ∈ lw_ok := wd_213
theorem wi_X4_init : Cond.initialized yX4_init.cls ∈ lw_ok := wd_104
theorem wn_X4_init : notMH yX4_init := ⟨by decide, by decide⟩
theorem wp_X4_init : (parseMethodDescriptor yX4_init.desc).map (fun d => d.parameters.length) = some 0 := by decide +kernel
theorem wd_212 : Cond.instanceMethod ({ cls := "UtilityBoard$Law", name := "<init>", desc := "()V" } : MethodName) ∈ lw_ok := lw_ok_mem (tb_0 _ (List.mem_of_getElem? (i := 114) (by decide +kernel))) rfl
theorem wm_X4_init : Cond.instanceMethod yX4_init ∈ lw_ok := wd_212
theorem cin_X11_67 : CIN RX11 67 yX4_init "UtilityBoard" cX4_init 1 0 := ⟨by decide +kernel, wm_X4_init, wi_X4_init, wc_X4_init, rfl, wn_X4_init, wp_X4_init⟩
theorem wd_247 : Cond.code ({ cls := "UtilityBoard$Layout", name := "<init>", desc := "()V" } : MethodName) prog_7_method_1_code (1 : Nat) none ∈ lw_ok := lw_ok_mem (tb_0 _ (List.mem_of_getElem? (i := 149) rfl)) rfl
theorem wc_X5_init : Cond.code yX5_init cX5_init 1 none ∈ lw_ok := wd_247
theorem wi_X5_init : Cond.initialized yX5_init.cls ∈ lw_ok := wd_105
theorem wn_X5_init : notMH yX5_init := ⟨by decide, by decide⟩
theorem wp_X5_init : (parseMethodDescriptor yX5_init.desc).map (fun d => d.parameters.length) = some 0 := by decide +kernel
theorem wd_246 : Cond.instanceMethod ({ cls := "UtilityBoard$Layout", name := "<init>", desc := "()V" } : MethodName) ∈ lw_ok := lw_ok_mem (tb_0 _ (List.mem_of_getElem? (i := 148) (by decide +kernel))) rfl
theorem wm_X5_init : Cond.instanceMethod yX5_init ∈ lw_ok := wd_246
theorem cin_X11_74 : CIN RX11 74 yX5_init "UtilityBoard" cX5_init 1 0 := ⟨by decide +kernel, wm_X5_init, wi_X5_init, wc_X5_init, rfl, wn_X5_init, wp_X5_init⟩
theorem csn_X2_62 : CSN RX2 62 yX11_within "UtilityBoard" cX11_within 3 (some .boolean) 3 := ⟨by decide +kernel, wt_X11_within, wi_X11_within, wc_X11_within, wn_X11_within, wp_X11_within⟩
theorem csn_X5_39 : CSN RX5 39 yX11_within "UtilityBoard" cX11_within 3 (some .boolean) 3 := ⟨by decide +kernel, wt_X11_within, wi_X11_within, wc_X11_within, wn_X11_within, wp_X11_within⟩
theorem csn_X10_44 : CSN RX10 44 yX11_within "UtilityBoard" cX11_within 3 (some .boolean) 3 := ⟨by decide +kernel, wt_X11_within, wi_X11_within, wc_X11_within, wn_X11_within, wp_X11_within⟩
theorem csn_X10_62 : CSN RX10 62 yX11_roundedUp "UtilityBoard" cX11_roundedUp 2 (some .int) 2 := ⟨by decide +kernel, wt_X11_roundedUp, wi_X11_roundedUp, wc_X11_roundedUp, wn_X11_roundedUp, wp_X11_roundedUp⟩
theorem ct_1000 : ctab 1000 = some (0, 0, 2103, [(0, 1001, 0), (0, 1002, 0), (0, 1003, 0)]) := rfl
theorem ct_1100 : ctab 1100 = some (0, 1, 2109, [(0, 1101, 0), (0, 1102, 0), (0, 1103, 0), (0, 1104, 0), (0, 1105, 0)]) := rfl
theorem oks_1104 : okS 1104 1100 3 = true := by decide +kernel
theorem oks_1105 : okS 1105 1100 4 = true := by decide +kernel
theorem ct_1200 : ctab 1200 = some (0, 2, 2104, [(0, 1201, 0), (1, 1202, 0), (1, 1203, 0), (1, 1204, 0), (1, 1205, 0), (1, 1206, 0), (1, 1207, 0), (1, 1208, 0), (1, 1209, 0), (1, 1210, 0), (1, 1211, 0), (0, 1212, 0), (0, 1213, 0), (0, 1214, 0), (0, 1215, 0), (0, 1216, 0)]) := rfl
theorem oks_1212 : okS 1212 1200 11 = true := by decide +kernel
theorem oks_1213 : okS 1213 1200 12 = true := by decide +kernel
theorem oks_1214 : okS 1214 1200 13 = true := by decide +kernel
theorem oks_1215 : okS 1215 1200 14 = true := by decide +kernel
theorem oks_1216 : okS 1216 1200 15 = true := by decide +kernel
theorem ct_1202 : ctab 1202 = some (1, 8, 2104, []) := rfl
theorem oka_1202 : okA 1202 = true := by decide +kernel
theorem ct_1203 : ctab 1203 = some (1, 8, 2104, []) := rfl
theorem oka_1203 : okA 1203 = true := by decide +kernel
theorem ct_1204 : ctab 1204 = some (1, 8, 2104, []) := rfl
theorem oka_1204 : okA 1204 = true := by decide +kernel
theorem ct_1205 : ctab 1205 = some (1, 8, 2104, []) := rfl
theorem oka_1205 : okA 1205 = true := by decide +kernel
theorem ct_1206 : ctab 1206 = some (1, 8, 2104, []) := rfl
theorem oka_1206 : okA 1206 = true := by decide +kernel
theorem ct_1207 : ctab 1207 = some (1, 127, 2104, []) := rfl
theorem oka_1207 : okA 1207 = true := by decide +kernel
theorem ct_1208 : ctab 1208 = some (1, 127, 2104, []) := rfl
theorem oka_1208 : okA 1208 = true := by decide +kernel
theorem ct_1209 : ctab 1209 = some (1, 127, 2104, []) := rfl
theorem oka_1209 : okA 1209 = true := by decide +kernel
theorem ct_1210 : ctab 1210 = some (1, 8, 2104, []) := rfl
theorem oka_1210 : okA 1210 = true := by decide +kernel
theorem ct_1211 : ctab 1211 = some (1, 8, 2104, []) := rfl
theorem oka_1211 : okA 1211 = true := by decide +kernel
theorem ct_1300 : ctab 1300 = some (0, 3, 2110, [(0, 1301, 0), (0, 1302, 0), (0, 1303, 0), (0, 1304, 0)]) := rfl
theorem ct_1330 : ctab 1330 = some (0, 3, 2111, [(0, 1331, 0), (0, 1332, 0), (0, 1333, 0), (0, 1334, 0)]) := rfl
theorem ct_1360 : ctab 1360 = some (0, 3, 2112, [(0, 1361, 0), (0, 1362, 0), (0, 1363, 0), (0, 1364, 0)]) := rfl
theorem ct_1400 : ctab 1400 = some (0, 4, 1, [(2, 1401, 0), (1, 1402, 0), (1, 1403, 0), (1, 1404, 0), (0, 1405, 0), (0, 1406, 0), (0, 1407, 0), (0, 1408, 0)]) := rfl
theorem oks_1405 : okS 1405 1400 4 = true := by decide +kernel
theorem oks_1406 : okS 1406 1400 5 = true := by decide +kernel
theorem oks_1407 : okS 1407 1400 6 = true := by decide +kernel
theorem oks_1408 : okS 1408 1400 7 = true := by decide +kernel
theorem ct_1402 : ctab 1402 = some (1, 30, 1, []) := rfl
theorem oka_1402 : okA 1402 = true := by decide +kernel
theorem ct_1403 : ctab 1403 = some (1, 9, 1, []) := rfl
theorem oka_1403 : okA 1403 = true := by decide +kernel
theorem ct_1404 : ctab 1404 = some (1, 160, 1, []) := rfl
theorem oka_1404 : okA 1404 = true := by decide +kernel
theorem ct_1500 : ctab 1500 = some (0, 5, 1, [(1, 1501, 0), (1, 1502, 0), (1, 1503, 0), (1, 1504, 0), (0, 1505, 0), (3, 1506, 2000), (0, 1507, 0), (0, 1508, 0)]) := rfl
theorem oks_1505 : okS 1505 1500 4 = true := by decide +kernel
theorem oks_1506 : okS 1506 1500 5 = true := by decide +kernel
theorem oks_1507 : okS 1507 1500 6 = true := by decide +kernel
theorem oks_1508 : okS 1508 1500 7 = true := by decide +kernel
theorem ct_1501 : ctab 1501 = some (1, 512, 1, []) := rfl
theorem oka_1501 : okA 1501 = true := by decide +kernel
theorem ct_1502 : ctab 1502 = some (1, 512, 1, []) := rfl
theorem oka_1502 : okA 1502 = true := by decide +kernel
theorem ct_1503 : ctab 1503 = some (1, 512, 1, []) := rfl
theorem oka_1503 : okA 1503 = true := by decide +kernel
theorem ct_1504 : ctab 1504 = some (1, 9, 1, []) := rfl
theorem oka_1504 : okA 1504 = true := by decide +kernel
theorem ct_1600 : ctab 1600 = some (0, 6, 2106, [(0, 1601, 0), (0, 1602, 0), (0, 1603, 0), (0, 1604, 0), (0, 1605, 0), (1, 1606, 0), (0, 1607, 0), (0, 1608, 0)]) := rfl
theorem oks_1607 : okS 1607 1600 6 = true := by decide +kernel
theorem oks_1608 : okS 1608 1600 7 = true := by decide +kernel
theorem ct_1606 : ctab 1606 = some (1, 20, 2106, []) := rfl
theorem oka_1606 : okA 1606 = true := by decide +kernel
theorem ct_1700 : ctab 1700 = some (0, 7, 1401, [(0, 1701, 0), (0, 1702, 0), (0, 1703, 0), (0, 1704, 0), (1, 1705, 0), (1, 1706, 0), (1, 1707, 0), (1, 1708, 0), (1, 1709, 0)]) := rfl
theorem ct_1705 : ctab 1705 = some (1, 1001704, 1401, []) := rfl
theorem oka_1705 : okA 1705 = true := by decide +kernel
theorem ct_1706 : ctab 1706 = some (1, 1001704, 1401, []) := rfl
theorem oka_1706 : okA 1706 = true := by decide +kernel
theorem ct_1707 : ctab 1707 = some (1, 1001704, 1401, []) := rfl
theorem oka_1707 : okA 1707 = true := by decide +kernel
theorem ct_1708 : ctab 1708 = some (1, 1001704, 1401, []) := rfl
theorem oka_1708 : okA 1708 = true := by decide +kernel
theorem ct_1709 : ctab 1709 = some (1, 1001790, 1401, []) := rfl
theorem oka_1709 : okA 1709 = true := by decide +kernel
theorem ct_1800 : ctab 1800 = some (0, 8, 2108, [(0, 1801, 0), (0, 1802, 0)]) := rfl
theorem oks_1801 : okS 1801 1800 0 = true := by decide +kernel
theorem oks_1802 : okS 1802 1800 1 = true := by decide +kernel
theorem ct_1900 : ctab 1900 = some (0, 9, 1, [(1, 1901, 0), (1, 1902, 0), (1, 1903, 0), (1, 1904, 0), (1, 1905, 0), (0, 1906, 0), (0, 1907, 0), (3, 1908, 2113), (0, 1909, 0), (0, 1910, 0), (0, 1911, 0)]) := rfl
theorem oks_1906 : okS 1906 1900 5 = true := by decide +kernel
theorem oks_1907 : okS 1907 1900 6 = true := by decide +kernel
theorem oks_1908 : okS 1908 1900 7 = true := by decide +kernel
theorem oks_1909 : okS 1909 1900 8 = true := by decide +kernel
theorem oks_1910 : okS 1910 1900 9 = true := by decide +kernel
theorem oks_1911 : okS 1911 1900 10 = true := by decide +kernel
theorem ct_1901 : ctab 1901 = some (1, 12, 1, []) := rfl
theorem oka_1901 : okA 1901 = true := by decide +kernel
theorem ct_1902 : ctab 1902 = some (1, 12, 1, []) := rfl
theorem oka_1902 : okA 1902 = true := by decide +kernel
theorem ct_1903 : ctab 1903 = some (1, 12, 1, []) := rfl
theorem oka_1903 : okA 1903 = true := by decide +kernel
theorem ct_1904 : ctab 1904 = some (1, 12, 1, []) := rfl
theorem oka_1904 : okA 1904 = true := by decide +kernel
theorem ct_1905 : ctab 1905 = some (1, 160, 1, []) := rfl
theorem oka_1905 : okA 1905 = true := by decide +kernel
theorem ct_2000 : ctab 2000 = some (0, 10, 2105, [(0, 2001, 0), (0, 2002, 0), (3, 2003, 1000), (0, 2004, 0), (0, 2005, 0), (1, 2006, 0), (1, 2007, 0), (1, 2008, 0), (0, 2009, 0), (0, 2010, 0)]) := rfl
theorem oks_2009 : okS 2009 2000 8 = true := by decide +kernel
theorem oks_2010 : okS 2010 2000 9 = true := by decide +kernel
theorem ct_2006 : ctab 2006 = some (1, 2, 2105, []) := rfl
theorem oka_2006 : okA 2006 = true := by decide +kernel
theorem ct_2007 : ctab 2007 = some (1, 1002090, 2105, []) := rfl
theorem oka_2007 : okA 2007 = true := by decide +kernel
theorem ct_2008 : ctab 2008 = some (1, 1002090, 2105, []) := rfl
theorem oka_2008 : okA 2008 = true := by decide +kernel
theorem ct_2100 : ctab 2100 = some (0, 11, 1, [(0, 2101, 0), (0, 2102, 0), (2, 2103, 0), (2, 2104, 0), (2, 2105, 0), (2, 2106, 0), (1, 2107, 0), (2, 2108, 0), (2, 2109, 0), (2, 2110, 0), (2, 2111, 0), (2, 2112, 0), (1, 2113, 0), (0, 2114, 0), (2, 1900, 0), (2, 1400, 0), (2, 1500, 0)]) := rfl
theorem oks_2101 : okS 2101 2100 0 = true := by decide +kernel
theorem oks_2102 : okS 2102 2100 1 = true := by decide +kernel
theorem oks_2114 : okS 2114 2100 13 = true := by decide +kernel
theorem ct_2107 : ctab 2107 = some (1, 12, 1, []) := rfl
theorem oka_2107 : okA 2107 = true := by decide +kernel
theorem ct_2113 : ctab 2113 = some (2, 1002190, 2, []) := rfl
theorem oka_2113 : okA 2113 = true := by decide +kernel
theorem ct_2200 : ctab 2200 = some (0, 12, 1, [(0, 2201, 0), (0, 2202, 0), (0, 2203, 0), (0, 2204, 0), (1, 2205, 0), (1, 2206, 0), (1, 2207, 0), (1, 2208, 0), (1, 2209, 0), (1, 2210, 0), (1, 2211, 0), (1, 2212, 0), (1, 2213, 0), (1, 2214, 0), (1, 2215, 0), (1, 2216, 0), (1, 2217, 0), (1, 2218, 0), (1, 2219, 0), (1, 2220, 0), (1, 2221, 0), (1, 2222, 0), (1, 2223, 0), (1, 2224, 0), (1, 2225, 0), (1, 2226, 0), (1, 2227, 0), (1, 2228, 0), (1, 2229, 0), (1, 2230, 0), (1, 2231, 0), (0, 2232, 0), (1, 2233, 0), (1, 2234, 0), (1, 2235, 0), (1, 2236, 0), (1, 2237, 0), (1, 2238, 0), (1, 2239, 0), (1, 2240, 0), (1, 2241, 0), (0, 2242, 0), (0, 2243, 0), (0, 2244, 0), (0, 2245, 0), (0, 2246, 0), (0, 2247, 0), (0, 2248, 0), (0, 2249, 0), (0, 2250, 0), (1, 2251, 0), (1, 2252, 0), (1, 2253, 0), (1, 2254, 0), (1, 2255, 0), (1, 2256, 0), (1, 2257, 0), (0, 2258, 0), (0, 2259, 0), (1, 2260, 0), (1, 2261, 0), (1, 2262, 0), (1, 2263, 0), (1, 2264, 0), (1, 2265, 0), (1, 2266, 0), (1, 2267, 0), (1, 2268, 0), (1, 2269, 0), (1, 2270, 0), (1, 2271, 0), (1, 2272, 0), (0, 2273, 0), (0, 2274, 0), (1, 2275, 0), (1, 2276, 0), (0, 2277, 0), (1, 2278, 0), (1, 2279, 0), (0, 2280, 0), (1, 2281, 0), (1, 2282, 0), (1, 2283, 0), (1, 2284, 0), (1, 2285, 0), (0, 2286, 0), (0, 2287, 0), (0, 2288, 0), (1, 2289, 0), (1, 2290, 0), (1, 2291, 0), (1, 2292, 0), (1, 2293, 0), (1, 2294, 0), (1, 2295, 0)]) := rfl
theorem oks_2201 : okS 2201 2200 0 = true := by decide +kernel
theorem oks_2202 : okS 2202 2200 1 = true := by decide +kernel
theorem oks_2203 : okS 2203 2200 2 = true := by decide +kernel
theorem oks_2204 : okS 2204 2200 3 = true := by decide +kernel
theorem oks_2232 : okS 2232 2200 31 = true := by decide +kernel
theorem oks_2242 : okS 2242 2200 41 = true := by decide +kernel
theorem oks_2243 : okS 2243 2200 42 = true := by decide +kernel
theorem oks_2244 : okS 2244 2200 43 = true := by decide +kernel
theorem oks_2245 : okS 2245 2200 44 = true := by decide +kernel
theorem oks_2246 : okS 2246 2200 45 = true := by decide +kernel
theorem oks_2247 : okS 2247 2200 46 = true := by decide +kernel
theorem oks_2248 : okS 2248 2200 47 = true := by decide +kernel
theorem oks_2249 : okS 2249 2200 48 = true := by decide +kernel
theorem oks_2250 : okS 2250 2200 49 = true := by decide +kernel
theorem oks_2258 : okS 2258 2200 57 = true := by decide +kernel
theorem oks_2259 : okS 2259 2200 58 = true := by decide +kernel
theorem oks_2273 : okS 2273 2200 72 = true := by decide +kernel
theorem oks_2274 : okS 2274 2200 73 = true := by decide +kernel
theorem oks_2277 : okS 2277 2200 76 = true := by decide +kernel
theorem oks_2280 : okS 2280 2200 79 = true := by decide +kernel
theorem oks_2286 : okS 2286 2200 85 = true := by decide +kernel
theorem oks_2287 : okS 2287 2200 86 = true := by decide +kernel
theorem oks_2288 : okS 2288 2200 87 = true := by decide +kernel
theorem ct_2205 : ctab 2205 = some (1, 20, 1, []) := rfl
theorem oka_2205 : okA 2205 = true := by decide +kernel
theorem ct_2206 : ctab 2206 = some (1, 20, 1, []) := rfl
theorem oka_2206 : okA 2206 = true := by decide +kernel
theorem ct_2207 : ctab 2207 = some (1, 20, 1, []) := rfl
theorem oka_2207 : okA 2207 = true := by decide +kernel
theorem ct_2208 : ctab 2208 = some (1, 22, 1, []) := rfl
theorem oka_2208 : okA 2208 = true := by decide +kernel
theorem ct_2209 : ctab 2209 = some (1, 22, 1, []) := rfl
theorem oka_2209 : okA 2209 = true := by decide +kernel
theorem ct_2210 : ctab 2210 = some (1, 22, 1, []) := rfl
theorem oka_2210 : okA 2210 = true := by decide +kernel
theorem ct_2211 : ctab 2211 = some (1, 176, 1, []) := rfl
theorem oka_2211 : okA 2211 = true := by decide +kernel
theorem ct_2212 : ctab 2212 = some (1, 176, 1, []) := rfl
theorem oka_2212 : okA 2212 = true := by decide +kernel
theorem ct_2213 : ctab 2213 = some (1, 176, 1, []) := rfl
theorem oka_2213 : okA 2213 = true := by decide +kernel
theorem ct_2214 : ctab 2214 = some (1, 176, 1, []) := rfl
theorem oka_2214 : okA 2214 = true := by decide +kernel
theorem ct_2215 : ctab 2215 = some (1, 176, 1, []) := rfl
theorem oka_2215 : okA 2215 = true := by decide +kernel
theorem ct_2216 : ctab 2216 = some (1, 30, 1, []) := rfl
theorem oka_2216 : okA 2216 = true := by decide +kernel
theorem ct_2217 : ctab 2217 = some (1, 30, 1, []) := rfl
theorem oka_2217 : okA 2217 = true := by decide +kernel
theorem ct_2218 : ctab 2218 = some (1, 30, 1, []) := rfl
theorem oka_2218 : okA 2218 = true := by decide +kernel
theorem ct_2219 : ctab 2219 = some (1, 30, 1, []) := rfl
theorem oka_2219 : okA 2219 = true := by decide +kernel
theorem ct_2220 : ctab 2220 = some (1, 30, 1, []) := rfl
theorem oka_2220 : okA 2220 = true := by decide +kernel
theorem ct_2221 : ctab 2221 = some (1, 30, 1, []) := rfl
theorem oka_2221 : okA 2221 = true := by decide +kernel
theorem ct_2222 : ctab 2222 = some (1, 30, 1, []) := rfl
theorem oka_2222 : okA 2222 = true := by decide +kernel
theorem ct_2223 : ctab 2223 = some (1, 30, 1, []) := rfl
theorem oka_2223 : okA 2223 = true := by decide +kernel
theorem ct_2224 : ctab 2224 = some (1, 270, 1, []) := rfl
theorem oka_2224 : okA 2224 = true := by decide +kernel
theorem ct_2225 : ctab 2225 = some (1, 270, 1, []) := rfl
theorem oka_2225 : okA 2225 = true := by decide +kernel
theorem ct_2226 : ctab 2226 = some (1, 8, 1, []) := rfl
theorem oka_2226 : okA 2226 = true := by decide +kernel
theorem ct_2227 : ctab 2227 = some (1, 8, 1, []) := rfl
theorem oka_2227 : okA 2227 = true := by decide +kernel
theorem ct_2228 : ctab 2228 = some (1, 8, 1, []) := rfl
theorem oka_2228 : okA 2228 = true := by decide +kernel
theorem ct_2229 : ctab 2229 = some (1, 8, 1, []) := rfl
theorem oka_2229 : okA 2229 = true := by decide +kernel
theorem ct_2230 : ctab 2230 = some (1, 9, 1, []) := rfl
theorem oka_2230 : okA 2230 = true := by decide +kernel
theorem ct_2231 : ctab 2231 = some (1, 9, 1, []) := rfl
theorem oka_2231 : okA 2231 = true := by decide +kernel
theorem ct_2233 : ctab 2233 = some (1, 12, 1, []) := rfl
theorem oka_2233 : okA 2233 = true := by decide +kernel
theorem ct_2234 : ctab 2234 = some (1, 12, 1, []) := rfl
theorem oka_2234 : okA 2234 = true := by decide +kernel
theorem ct_2235 : ctab 2235 = some (1, 12, 1, []) := rfl
theorem oka_2235 : okA 2235 = true := by decide +kernel
theorem ct_2236 : ctab 2236 = some (1, 12, 1, []) := rfl
theorem oka_2236 : okA 2236 = true := by decide +kernel
theorem ct_2237 : ctab 2237 = some (1, 12, 1, []) := rfl
theorem oka_2237 : okA 2237 = true := by decide +kernel
theorem ct_2238 : ctab 2238 = some (1, 240, 1, []) := rfl
theorem oka_2238 : okA 2238 = true := by decide +kernel
theorem ct_2239 : ctab 2239 = some (1, 12, 1, []) := rfl
theorem oka_2239 : okA 2239 = true := by decide +kernel
theorem ct_2240 : ctab 2240 = some (3, 12, 1, []) := rfl
theorem oka_2240 : okA 2240 = true := by decide +kernel
theorem ct_2241 : ctab 2241 = some (2, 400, 1, []) := rfl
theorem oka_2241 : okA 2241 = true := by decide +kernel
theorem ct_2251 : ctab 2251 = some (1, 180, 1, []) := rfl
theorem oka_2251 : okA 2251 = true := by decide +kernel
theorem ct_2252 : ctab 2252 = some (1, 180, 1, []) := rfl
theorem oka_2252 : okA 2252 = true := by decide +kernel
theorem ct_2253 : ctab 2253 = some (1, 12, 1, []) := rfl
theorem oka_2253 : okA 2253 = true := by decide +kernel
theorem ct_2254 : ctab 2254 = some (1, 12, 1, []) := rfl
theorem oka_2254 : okA 2254 = true := by decide +kernel
theorem ct_2255 : ctab 2255 = some (1, 12, 1, []) := rfl
theorem oka_2255 : okA 2255 = true := by decide +kernel
theorem ct_2256 : ctab 2256 = some (1, 12, 1, []) := rfl
theorem oka_2256 : okA 2256 = true := by decide +kernel
theorem ct_2257 : ctab 2257 = some (1, 12, 1, []) := rfl
theorem oka_2257 : okA 2257 = true := by decide +kernel
theorem ct_2260 : ctab 2260 = some (1, 5400, 1, []) := rfl
theorem oka_2260 : okA 2260 = true := by decide +kernel
theorem ct_2261 : ctab 2261 = some (1, 30, 1, []) := rfl
theorem oka_2261 : okA 2261 = true := by decide +kernel
theorem ct_2262 : ctab 2262 = some (1, 30, 1, []) := rfl
theorem oka_2262 : okA 2262 = true := by decide +kernel
theorem ct_2263 : ctab 2263 = some (1, 30, 1, []) := rfl
theorem oka_2263 : okA 2263 = true := by decide +kernel
theorem ct_2264 : ctab 2264 = some (1, 30, 1, []) := rfl
theorem oka_2264 : okA 2264 = true := by decide +kernel
theorem ct_2265 : ctab 2265 = some (1, 360, 1, []) := rfl
theorem oka_2265 : okA 2265 = true := by decide +kernel
theorem ct_2266 : ctab 2266 = some (1, 360, 1, []) := rfl
theorem oka_2266 : okA 2266 = true := by decide +kernel
theorem ct_2267 : ctab 2267 = some (1, 360, 1, []) := rfl
theorem oka_2267 : okA 2267 = true := by decide +kernel
theorem ct_2268 : ctab 2268 = some (1, 360, 1, []) := rfl
theorem oka_2268 : okA 2268 = true := by decide +kernel
theorem ct_2269 : ctab 2269 = some (1, 360, 1, []) := rfl
theorem oka_2269 : okA 2269 = true := by decide +kernel
theorem ct_2270 : ctab 2270 = some (3, 360, 1, []) := rfl
theorem oka_2270 : okA 2270 = true := by decide +kernel
theorem ct_2271 : ctab 2271 = some (1, 180, 1, []) := rfl
theorem oka_2271 : okA 2271 = true := by decide +kernel
theorem ct_2272 : ctab 2272 = some (1, 9, 1, []) := rfl
theorem oka_2272 : okA 2272 = true := by decide +kernel
theorem ct_2275 : ctab 2275 = some (1, 180000, 1, []) := rfl
theorem oka_2275 : okA 2275 = true := by decide +kernel
theorem ct_2276 : ctab 2276 = some (1, 15000, 1, []) := rfl
theorem oka_2276 : okA 2276 = true := by decide +kernel
theorem ct_2278 : ctab 2278 = some (1, 40, 1, []) := rfl
theorem oka_2278 : okA 2278 = true := by decide +kernel
theorem ct_2279 : ctab 2279 = some (1, 40, 1, []) := rfl
theorem oka_2279 : okA 2279 = true := by decide +kernel
theorem ct_2281 : ctab 2281 = some (1, 60, 1, []) := rfl
theorem oka_2281 : okA 2281 = true := by decide +kernel
theorem ct_2282 : ctab 2282 = some (1, 60, 1, []) := rfl
theorem oka_2282 : okA 2282 = true := by decide +kernel
theorem ct_2283 : ctab 2283 = some (1, 60, 1, []) := rfl
theorem oka_2283 : okA 2283 = true := by decide +kernel
theorem ct_2284 : ctab 2284 = some (1, 60, 1, []) := rfl
theorem oka_2284 : okA 2284 = true := by decide +kernel
theorem ct_2285 : ctab 2285 = some (3, 60, 1, []) := rfl
theorem oka_2285 : okA 2285 = true := by decide +kernel
theorem ct_2289 : ctab 2289 = some (1, 100, 1, []) := rfl
theorem oka_2289 : okA 2289 = true := by decide +kernel
theorem ct_2290 : ctab 2290 = some (1, 100, 1, []) := rfl
theorem oka_2290 : okA 2290 = true := by decide +kernel
theorem ct_2291 : ctab 2291 = some (1, 100, 1, []) := rfl
theorem oka_2291 : okA 2291 = true := by decide +kernel
theorem ct_2292 : ctab 2292 = some (1, 100, 1, []) := rfl
theorem oka_2292 : okA 2292 = true := by decide +kernel
theorem ct_2293 : ctab 2293 = some (1, 100, 1, []) := rfl
theorem oka_2293 : okA 2293 = true := by decide +kernel
theorem ct_2294 : ctab 2294 = some (1, 100, 1, []) := rfl
theorem oka_2294 : okA 2294 = true := by decide +kernel
theorem ct_2295 : ctab 2295 = some (3, 100, 1, []) := rfl
theorem oka_2295 : okA 2295 = true := by decide +kernel
