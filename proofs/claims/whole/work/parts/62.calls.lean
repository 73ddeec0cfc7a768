/-! what the tables say of the public methods -/
theorem cal_X6_feed : CalV yX6_feed cX6_feed 4 (some .int) 2 := ⟨mw_6_5, mw_1_2, mw_6_3, mw_6_4, ⟨by decide +kernel, by decide +kernel, by decide +kernel⟩⟩
theorem cal_X7_feed : CalV yX7_feed cX7_feed 5 (some .int) 2 := ⟨mw_6_15, mw_1_5, mw_6_13, mw_6_14, ⟨by decide +kernel, by decide +kernel, by decide +kernel⟩⟩
theorem cal_X6_hill : CalV yX6_hill cX6_hill 2 (some .int) 0 := ⟨mw_7_1, mw_1_2, mw_6_23, mw_7_0, ⟨by decide +kernel, by decide +kernel, by decide +kernel⟩⟩
theorem cal_X7_hill : CalV yX7_hill cX7_hill 1 (some .int) 0 := ⟨mw_12_0, mw_1_5, mw_11_22, mw_11_23, ⟨by decide +kernel, by decide +kernel, by decide +kernel⟩⟩
theorem cal_X6_set : CalV yX6_set cX6_set 4 (some .int) 2 := ⟨mw_15_7, mw_1_2, mw_15_5, mw_15_6, ⟨by decide +kernel, by decide +kernel, by decide +kernel⟩⟩
theorem cal_X7_set : CalV yX7_set cX7_set 3 (some .int) 2 := ⟨mw_15_16, mw_1_5, mw_15_14, mw_15_15, ⟨by decide +kernel, by decide +kernel, by decide +kernel⟩⟩
theorem cal_X6_lawOf : CalV yX6_lawOf cX6_lawOf 2 (some .int) 1 := ⟨mw_16_3, mw_1_2, mw_16_1, mw_16_2, ⟨by decide +kernel, by decide +kernel, by decide +kernel⟩⟩
theorem cal_X7_lawOf : CalV yX7_lawOf cX7_lawOf 2 (some .int) 1 := ⟨mw_16_7, mw_1_5, mw_16_5, mw_16_6, ⟨by decide +kernel, by decide +kernel, by decide +kernel⟩⟩
theorem cal_X6_sheep : CalV yX6_sheep cX6_sheep 5 (some .int) 4 := ⟨mw_16_11, mw_1_2, mw_16_9, mw_16_10, ⟨by decide +kernel, by decide +kernel, by decide +kernel⟩⟩
theorem cal_X7_sheep : CalV yX7_sheep cX7_sheep 6 (some .int) 4 := ⟨mw_16_19, mw_1_5, mw_16_17, mw_16_18, ⟨by decide +kernel, by decide +kernel, by decide +kernel⟩⟩
theorem cal_X6_of : CalV yX6_of cX6_of 3 (some .int) 2 := ⟨mw_17_3, mw_1_2, mw_17_1, mw_17_2, ⟨by decide +kernel, by decide +kernel, by decide +kernel⟩⟩
theorem cal_X7_of : CalV yX7_of cX7_of 3 (some .int) 2 := ⟨mw_18_11, mw_1_5, mw_18_9, mw_18_10, ⟨by decide +kernel, by decide +kernel, by decide +kernel⟩⟩
theorem cal_X6_worth : CalV yX6_worth cX6_worth 3 (some .int) 2 := ⟨mw_19_14, mw_1_2, mw_19_12, mw_19_13, ⟨by decide +kernel, by decide +kernel, by decide +kernel⟩⟩
theorem cal_X7_worth : CalV yX7_worth cX7_worth 3 (some .int) 2 := ⟨mw_19_19, mw_1_5, mw_19_17, mw_19_18, ⟨by decide +kernel, by decide +kernel, by decide +kernel⟩⟩
theorem cal_X6_tames : CalV yX6_tames cX6_tames 2 (some .int) 1 := ⟨mw_19_23, mw_1_2, mw_19_21, mw_19_22, ⟨by decide +kernel, by decide +kernel, by decide +kernel⟩⟩
theorem cal_X7_tames : CalV yX7_tames cX7_tames 2 (some .int) 1 := ⟨mw_20_7, mw_1_5, mw_20_5, mw_20_6, ⟨by decide +kernel, by decide +kernel, by decide +kernel⟩⟩
theorem cal_X6_mind : CalV yX6_mind cX6_mind 5 (some .int) 3 := ⟨mw_20_15, mw_1_2, mw_20_13, mw_20_14, ⟨by decide +kernel, by decide +kernel, by decide +kernel⟩⟩
theorem cal_X7_mind : CalV yX7_mind cX7_mind 4 (some .int) 3 := ⟨mw_20_19, mw_1_5, mw_20_17, mw_20_18, ⟨by decide +kernel, by decide +kernel, by decide +kernel⟩⟩
theorem cal_X6_fear : CalV yX6_fear cX6_fear 4 (some .int) 2 := ⟨mw_20_23, mw_1_2, mw_20_21, mw_20_22, ⟨by decide +kernel, by decide +kernel, by decide +kernel⟩⟩
theorem cal_X7_fear : CalV yX7_fear cX7_fear 3 (some .int) 2 := ⟨mw_21_3, mw_1_5, mw_21_1, mw_21_2, ⟨by decide +kernel, by decide +kernel, by decide +kernel⟩⟩
theorem cal_X6_look : CalV yX6_look cX6_look 4 (some .int) 2 := ⟨mw_21_7, mw_1_2, mw_21_5, mw_21_6, ⟨by decide +kernel, by decide +kernel, by decide +kernel⟩⟩
theorem cal_X7_look : CalV yX7_look cX7_look 3 (some .int) 2 := ⟨mw_21_11, mw_1_5, mw_21_9, mw_21_10, ⟨by decide +kernel, by decide +kernel, by decide +kernel⟩⟩
theorem cal_X6_place : CalV yX6_place cX6_place 3 (some .int) 2 := ⟨mw_21_15, mw_1_2, mw_21_13, mw_21_14, ⟨by decide +kernel, by decide +kernel, by decide +kernel⟩⟩
theorem cal_X7_place : CalV yX7_place cX7_place 3 (some .int) 2 := ⟨mw_22_12, mw_1_5, mw_22_10, mw_22_11, ⟨by decide +kernel, by decide +kernel, by decide +kernel⟩⟩
theorem cal_X6_grow : CalV yX6_grow cX6_grow 6 (some .int) 3 := ⟨mw_23_0, mw_1_2, mw_22_22, mw_22_23, ⟨by decide +kernel, by decide +kernel, by decide +kernel⟩⟩
theorem cal_X7_grow : CalV yX7_grow cX7_grow 4 (some .int) 3 := ⟨mw_23_4, mw_1_5, mw_23_2, mw_23_3, ⟨by decide +kernel, by decide +kernel, by decide +kernel⟩⟩
theorem cal_X6_flock : CalV yX6_flock cX6_flock 3 (some .int) 1 := ⟨mw_23_8, mw_1_2, mw_23_6, mw_23_7, ⟨by decide +kernel, by decide +kernel, by decide +kernel⟩⟩
theorem cal_X7_flock : CalV yX7_flock cX7_flock 2 (some .int) 1 := ⟨mw_23_13, mw_1_5, mw_23_11, mw_23_12, ⟨by decide +kernel, by decide +kernel, by decide +kernel⟩⟩
theorem cal_X6_call : CalV yX6_call cX6_call 3 (some .int) 1 := ⟨mw_23_17, mw_1_2, mw_23_15, mw_23_16, ⟨by decide +kernel, by decide +kernel, by decide +kernel⟩⟩
theorem cal_X7_call : CalV yX7_call cX7_call 2 (some .int) 1 := ⟨mw_23_22, mw_1_5, mw_23_20, mw_23_21, ⟨by decide +kernel, by decide +kernel, by decide +kernel⟩⟩
theorem cal_X6_winner : CalV yX6_winner cX6_winner 1 (some .int) 0 := ⟨mw_24_3, mw_1_2, mw_24_1, mw_24_2, ⟨by decide +kernel, by decide +kernel, by decide +kernel⟩⟩
theorem cal_X6_days : CalV yX6_days cX6_days 2 (some .int) 1 := ⟨mw_24_19, mw_1_2, mw_24_17, mw_24_18, ⟨by decide +kernel, by decide +kernel, by decide +kernel⟩⟩
theorem cal_X7_days : CalV yX7_days cX7_days 2 (some .int) 1 := ⟨mw_25_18, mw_1_5, mw_25_16, mw_25_17, ⟨by decide +kernel, by decide +kernel, by decide +kernel⟩⟩
theorem cal_X6_seed : CalV yX6_seed cX6_seed 3 (some .int) 1 := ⟨mw_26_10, mw_1_2, mw_26_8, mw_26_9, ⟨by decide +kernel, by decide +kernel, by decide +kernel⟩⟩
theorem cal_X7_seed : CalV yX7_seed cX7_seed 2 (some .int) 1 := ⟨mw_26_15, mw_1_5, mw_26_13, mw_26_14, ⟨by decide +kernel, by decide +kernel, by decide +kernel⟩⟩
theorem cal_X6_day : CalV yX6_day cX6_day 1 (some .int) 0 := ⟨mw_26_19, mw_1_2, mw_26_17, mw_26_18, ⟨by decide +kernel, by decide +kernel, by decide +kernel⟩⟩
theorem cal_X6_strays : CalV yX6_strays cX6_strays 6 (some .int) 1 := ⟨mw_27_17, mw_1_2, mw_27_15, mw_27_16, ⟨by decide +kernel, by decide +kernel, by decide +kernel⟩⟩
theorem cal_X7_strays : CalV yX7_strays cX7_strays 6 (some .int) 1 := ⟨mw_27_22, mw_1_5, mw_27_20, mw_27_21, ⟨by decide +kernel, by decide +kernel, by decide +kernel⟩⟩
theorem cal_X6_state : CalV yX6_state cX6_state 2 (some .int) 1 := ⟨mw_28_4, mw_1_2, mw_28_2, mw_28_3, ⟨by decide +kernel, by decide +kernel, by decide +kernel⟩⟩
theorem cal_X7_state : CalV yX7_state cX7_state 4 (some .int) 1 := ⟨mw_28_20, mw_1_5, mw_28_18, mw_28_19, ⟨by decide +kernel, by decide +kernel, by decide +kernel⟩⟩
theorem cal_X6_where : CalV yX6_where cX6_where 2 (some .int) 1 := ⟨mw_29_8, mw_1_2, mw_29_6, mw_29_7, ⟨by decide +kernel, by decide +kernel, by decide +kernel⟩⟩
theorem cal_X7_where : CalV yX7_where cX7_where 2 (some .int) 1 := ⟨mw_29_12, mw_1_5, mw_29_10, mw_29_11, ⟨by decide +kernel, by decide +kernel, by decide +kernel⟩⟩
theorem cal_X6_comes : CalV yX6_comes cX6_comes 3 (some .int) 1 := ⟨mw_29_20, mw_1_2, mw_29_18, mw_29_19, ⟨by decide +kernel, by decide +kernel, by decide +kernel⟩⟩
theorem cal_X7_comes : CalV yX7_comes cX7_comes 3 (some .int) 1 := ⟨mw_30_0, mw_1_5, mw_29_22, mw_29_23, ⟨by decide +kernel, by decide +kernel, by decide +kernel⟩⟩
theorem cal_X6_calm : CalV yX6_calm cX6_calm 2 (some .int) 0 := ⟨mw_30_4, mw_1_2, mw_30_2, mw_30_3, ⟨by decide +kernel, by decide +kernel, by decide +kernel⟩⟩
theorem cal_X7_calm : CalV yX7_calm cX7_calm 2 (some .int) 0 := ⟨mw_30_8, mw_1_5, mw_30_6, mw_30_7, ⟨by decide +kernel, by decide +kernel, by decide +kernel⟩⟩
theorem cal_X6_scared : CalV yX6_scared cX6_scared 3 (some .int) 1 := ⟨mw_30_12, mw_1_2, mw_30_10, mw_30_11, ⟨by decide +kernel, by decide +kernel, by decide +kernel⟩⟩
theorem cal_X7_scared : CalV yX7_scared cX7_scared 3 (some .int) 1 := ⟨mw_30_16, mw_1_5, mw_30_14, mw_30_15, ⟨by decide +kernel, by decide +kernel, by decide +kernel⟩⟩
theorem cal_X6_callFor : CalV yX6_callFor cX6_callFor 7 (some .int) 2 := ⟨mw_30_20, mw_1_2, mw_30_18, mw_30_19, ⟨by decide +kernel, by decide +kernel, by decide +kernel⟩⟩
theorem cal_X7_callFor : CalV yX7_callFor cX7_callFor 3 (some .int) 2 := ⟨mw_31_1, mw_1_5, mw_30_23, mw_31_0, ⟨by decide +kernel, by decide +kernel, by decide +kernel⟩⟩
theorem cal_X6_kindFor : CalV yX6_kindFor cX6_kindFor 8 (some .int) 3 := ⟨mw_31_13, mw_1_2, mw_31_11, mw_31_12, ⟨by decide +kernel, by decide +kernel, by decide +kernel⟩⟩
theorem cal_X7_kindFor : CalV yX7_kindFor cX7_kindFor 4 (some .int) 3 := ⟨mw_31_17, mw_1_5, mw_31_15, mw_31_16, ⟨by decide +kernel, by decide +kernel, by decide +kernel⟩⟩
theorem cal_X6_earFor : CalV yX6_earFor cX6_earFor 5 (some .int) 3 := ⟨mw_31_21, mw_1_2, mw_31_19, mw_31_20, ⟨by decide +kernel, by decide +kernel, by decide +kernel⟩⟩
theorem cal_X7_earFor : CalV yX7_earFor cX7_earFor 8 (some .int) 3 := ⟨mw_32_1, mw_1_5, mw_31_23, mw_32_0, ⟨by decide +kernel, by decide +kernel, by decide +kernel⟩⟩
theorem cal_X6_looksFor : CalV yX6_looksFor cX6_looksFor 3 (some .int) 1 := ⟨mw_32_5, mw_1_2, mw_32_3, mw_32_4, ⟨by decide +kernel, by decide +kernel, by decide +kernel⟩⟩
theorem cal_X7_looksFor : CalV yX7_looksFor cX7_looksFor 4 (some .int) 1 := ⟨mw_33_12, mw_1_5, mw_33_10, mw_33_11, ⟨by decide +kernel, by decide +kernel, by decide +kernel⟩⟩
theorem cal_X6_deafFor : CalV yX6_deafFor cX6_deafFor 3 (some .int) 1 := ⟨mw_34_0, mw_1_2, mw_33_22, mw_33_23, ⟨by decide +kernel, by decide +kernel, by decide +kernel⟩⟩
theorem cal_X7_deafFor : CalV yX7_deafFor cX7_deafFor 4 (some .int) 1 := ⟨mw_34_5, mw_1_5, mw_34_3, mw_34_4, ⟨by decide +kernel, by decide +kernel, by decide +kernel⟩⟩
theorem cal_X6_beats : CalV yX6_beats cX6_beats 3 (some .int) 2 := ⟨mw_34_9, mw_1_2, mw_34_7, mw_34_8, ⟨by decide +kernel, by decide +kernel, by decide +kernel⟩⟩
theorem cal_X7_beats : CalV yX7_beats cX7_beats 3 (some .int) 2 := ⟨mw_34_17, mw_1_5, mw_34_15, mw_34_16, ⟨by decide +kernel, by decide +kernel, by decide +kernel⟩⟩
theorem cal_X6_asked : CalV yX6_asked cX6_asked 2 (some .int) 1 := ⟨mw_35_1, mw_1_2, mw_34_23, mw_35_0, ⟨by decide +kernel, by decide +kernel, by decide +kernel⟩⟩
theorem cal_X7_asked : CalV yX7_asked cX7_asked 3 (some .int) 1 := ⟨mw_35_23, mw_1_5, mw_35_21, mw_35_22, ⟨by decide +kernel, by decide +kernel, by decide +kernel⟩⟩
theorem cal_X6_agenda : CalV yX6_agenda cX6_agenda 3 (some .int) 2 := ⟨mw_36_14, mw_1_2, mw_36_12, mw_36_13, ⟨by decide +kernel, by decide +kernel, by decide +kernel⟩⟩
theorem cal_X7_agenda : CalV yX7_agenda cX7_agenda 7 (some .int) 2 := ⟨mw_37_8, mw_1_5, mw_37_6, mw_37_7, ⟨by decide +kernel, by decide +kernel, by decide +kernel⟩⟩
theorem cal_X6_ring : CalV yX6_ring cX6_ring 1 (some .int) 0 := ⟨mw_37_15, mw_1_2, mw_37_13, mw_37_14, ⟨by decide +kernel, by decide +kernel, by decide +kernel⟩⟩
theorem cal_X7_ring : CalV yX7_ring cX7_ring 5 (some .int) 0 := ⟨mw_37_23, mw_1_5, mw_37_21, mw_37_22, ⟨by decide +kernel, by decide +kernel, by decide +kernel⟩⟩
theorem cal_X6_sham : CalV yX6_sham cX6_sham 6 (some .int) 1 := ⟨mw_38_3, mw_1_2, mw_38_1, mw_38_2, ⟨by decide +kernel, by decide +kernel, by decide +kernel⟩⟩
theorem cal_X7_sham : CalV yX7_sham cX7_sham 6 (some .int) 1 := ⟨mw_38_9, mw_1_5, mw_38_7, mw_38_8, ⟨by decide +kernel, by decide +kernel, by decide +kernel⟩⟩
theorem cal_X6_power : CalV yX6_power cX6_power 3 (some .long) 2 := ⟨mw_38_13, mw_1_2, mw_38_11, mw_38_12, ⟨by decide +kernel, by decide +kernel, by decide +kernel⟩⟩
theorem cal_X7_power : CalV yX7_power cX7_power 9 (some .long) 2 := ⟨mw_39_12, mw_1_5, mw_39_10, mw_39_11, ⟨by decide +kernel, by decide +kernel, by decide +kernel⟩⟩
theorem cal_X6_fits : CalV yX6_fits cX6_fits 8 (some .int) 3 := ⟨mw_39_23, mw_1_2, mw_39_21, mw_39_22, ⟨by decide +kernel, by decide +kernel, by decide +kernel⟩⟩
theorem cal_X7_fits : CalV yX7_fits cX7_fits 10 (some .int) 3 := ⟨mw_40_8, mw_1_5, mw_40_6, mw_40_7, ⟨by decide +kernel, by decide +kernel, by decide +kernel⟩⟩
theorem cal_X6_odds : CalV yX6_odds cX6_odds 13 (some .long) 3 := ⟨mw_40_19, mw_1_2, mw_40_17, mw_40_18, ⟨by decide +kernel, by decide +kernel, by decide +kernel⟩⟩
theorem cal_X7_odds : CalV yX7_odds cX7_odds 9 (some .long) 3 := ⟨mw_41_0, mw_1_5, mw_40_22, mw_40_23, ⟨by decide +kernel, by decide +kernel, by decide +kernel⟩⟩
theorem cal_X6_hope : CalV yX6_hope cX6_hope 3 (some .long) 2 := ⟨mw_41_5, mw_1_2, mw_41_3, mw_41_4, ⟨by decide +kernel, by decide +kernel, by decide +kernel⟩⟩
theorem cal_X7_hope : CalV yX7_hope cX7_hope 3 (some .long) 2 := ⟨mw_41_9, mw_1_5, mw_41_7, mw_41_8, ⟨by decide +kernel, by decide +kernel, by decide +kernel⟩⟩
theorem cal_X6_prove : CalV yX6_prove cX6_prove 4 (some .int) 2 := ⟨mw_41_13, mw_1_2, mw_41_11, mw_41_12, ⟨by decide +kernel, by decide +kernel, by decide +kernel⟩⟩
theorem cal_X7_prove : CalV yX7_prove cX7_prove 4 (some .int) 2 := ⟨mw_41_17, mw_1_5, mw_41_15, mw_41_16, ⟨by decide +kernel, by decide +kernel, by decide +kernel⟩⟩
theorem cal_X6_row : CalV yX6_row cX6_row 3 (some .int) 2 := ⟨mw_41_22, mw_1_2, mw_41_20, mw_41_21, ⟨by decide +kernel, by decide +kernel, by decide +kernel⟩⟩
theorem cal_X7_row : CalV yX7_row cX7_row 3 (some .int) 2 := ⟨mw_42_2, mw_1_5, mw_42_0, mw_42_1, ⟨by decide +kernel, by decide +kernel, by decide +kernel⟩⟩
theorem cal_X6_alterRow : CalV yX6_alterRow cX6_alterRow 5 (some .int) 3 := ⟨mw_42_11, mw_1_2, mw_42_9, mw_42_10, ⟨by decide +kernel, by decide +kernel, by decide +kernel⟩⟩
theorem cal_X7_alterRow : CalV yX7_alterRow cX7_alterRow 5 (some .int) 3 := ⟨mw_42_15, mw_1_5, mw_42_13, mw_42_14, ⟨by decide +kernel, by decide +kernel, by decide +kernel⟩⟩
theorem cal_X6_judge : CalV yX6_judge cX6_judge 3 (some .int) 1 := ⟨mw_42_19, mw_1_2, mw_42_17, mw_42_18, ⟨by decide +kernel, by decide +kernel, by decide +kernel⟩⟩
theorem cal_X7_judge : CalV yX7_judge cX7_judge 4 (some .int) 1 := ⟨mw_42_23, mw_1_5, mw_42_21, mw_42_22, ⟨by decide +kernel, by decide +kernel, by decide +kernel⟩⟩
theorem cal_X6_minds : CalV yX6_minds cX6_minds 7 (some .int) 4 := ⟨mw_43_3, mw_1_2, mw_43_1, mw_43_2, ⟨by decide +kernel, by decide +kernel, by decide +kernel⟩⟩
theorem cal_X7_minds : CalV yX7_minds cX7_minds 6 (some .int) 4 := ⟨mw_43_9, mw_1_5, mw_43_7, mw_43_8, ⟨by decide +kernel, by decide +kernel, by decide +kernel⟩⟩
theorem cal_X6_sheet : CalV yX6_sheet cX6_sheet 4 (some .int) 3 := ⟨mw_43_17, mw_1_2, mw_43_15, mw_43_16, ⟨by decide +kernel, by decide +kernel, by decide +kernel⟩⟩
theorem cal_X7_sheet : CalV yX7_sheet cX7_sheet 5 (some .int) 3 := ⟨mw_44_6, mw_1_5, mw_44_4, mw_44_5, ⟨by decide +kernel, by decide +kernel, by decide +kernel⟩⟩
theorem cal_X6_put : CalV yX6_put cX6_put 5 (some .int) 3 := ⟨mw_44_10, mw_1_2, mw_44_8, mw_44_9, ⟨by decide +kernel, by decide +kernel, by decide +kernel⟩⟩
theorem cal_X7_put : CalV yX7_put cX7_put 4 (some .int) 3 := ⟨mw_44_18, mw_1_5, mw_44_16, mw_44_17, ⟨by decide +kernel, by decide +kernel, by decide +kernel⟩⟩
theorem cal_X6_item : CalV yX6_item cX6_item 5 (some .int) 3 := ⟨mw_44_22, mw_1_2, mw_44_20, mw_44_21, ⟨by decide +kernel, by decide +kernel, by decide +kernel⟩⟩
theorem cal_X7_item : CalV yX7_item cX7_item 4 (some .int) 3 := ⟨mw_45_2, mw_1_5, mw_45_0, mw_45_1, ⟨by decide +kernel, by decide +kernel, by decide +kernel⟩⟩
theorem cal_X6_shelf : CalV yX6_shelf cX6_shelf 4 (some .int) 3 := ⟨mw_45_6, mw_1_2, mw_45_4, mw_45_5, ⟨by decide +kernel, by decide +kernel, by decide +kernel⟩⟩
theorem cal_X7_shelf : CalV yX7_shelf cX7_shelf 5 (some .int) 3 := ⟨mw_45_14, mw_1_5, mw_45_12, mw_45_13, ⟨by decide +kernel, by decide +kernel, by decide +kernel⟩⟩
theorem cal_X6_taken : CalV yX6_taken cX6_taken 6 (some .int) 2 := ⟨mw_45_21, mw_1_2, mw_45_19, mw_45_20, ⟨by decide +kernel, by decide +kernel, by decide +kernel⟩⟩
theorem cal_X7_taken : CalV yX7_taken cX7_taken 4 (some .int) 2 := ⟨mw_46_4, mw_1_5, mw_46_2, mw_46_3, ⟨by decide +kernel, by decide +kernel, by decide +kernel⟩⟩
theorem cal_X6_act : CalV yX6_act cX6_act 5 (some .int) 3 := ⟨mw_46_16, mw_1_2, mw_46_14, mw_46_15, ⟨by decide +kernel, by decide +kernel, by decide +kernel⟩⟩
theorem cal_X7_act : CalV yX7_act cX7_act 5 (some .int) 3 := ⟨mw_48_8, mw_1_5, mw_48_6, mw_48_7, ⟨by decide +kernel, by decide +kernel, by decide +kernel⟩⟩
theorem cal_X6_trace : CalV yX6_trace cX6_trace 2 (some .int) 1 := ⟨mw_50_9, mw_1_2, mw_50_7, mw_50_8, ⟨by decide +kernel, by decide +kernel, by decide +kernel⟩⟩
theorem cal_X7_trace : CalV yX7_trace cX7_trace 2 (some .int) 1 := ⟨mw_50_15, mw_1_5, mw_50_13, mw_50_14, ⟨by decide +kernel, by decide +kernel, by decide +kernel⟩⟩
theorem cal_X6_many : CalV yX6_many cX6_many 2 (some .int) 1 := ⟨mw_50_19, mw_1_2, mw_50_17, mw_50_18, ⟨by decide +kernel, by decide +kernel, by decide +kernel⟩⟩
theorem cal_X7_many : CalV yX7_many cX7_many 2 (some .int) 1 := ⟨mw_51_8, mw_1_5, mw_51_6, mw_51_7, ⟨by decide +kernel, by decide +kernel, by decide +kernel⟩⟩
theorem cal_X6_keep : CalV yX6_keep cX6_keep 1 (some .int) 0 := ⟨mw_51_20, mw_1_2, mw_51_18, mw_51_19, ⟨by decide +kernel, by decide +kernel, by decide +kernel⟩⟩
theorem cal_X7_keep : CalV yX7_keep cX7_keep 2 (some .int) 0 := ⟨mw_52_0, mw_1_5, mw_51_22, mw_51_23, ⟨by decide +kernel, by decide +kernel, by decide +kernel⟩⟩
theorem cal_X6_again : CalV yX6_again cX6_again 1 (some .int) 0 := ⟨mw_52_5, mw_1_2, mw_52_3, mw_52_4, ⟨by decide +kernel, by decide +kernel, by decide +kernel⟩⟩
theorem cal_X7_again : CalV yX7_again cX7_again 2 (some .int) 0 := ⟨mw_52_9, mw_1_5, mw_52_7, mw_52_8, ⟨by decide +kernel, by decide +kernel, by decide +kernel⟩⟩
/-- the world between calls, but for the rows -/
abbrev WW (cI cZ cR : ClassId) (o : Nat) (q qn qt qk qp qb qd qf : Nat → Nat) (om : Nat) (qm : Nat → Nat) (F : tF) (Fn : tF) (An : tA) (Ft : tF) (At : tA) (Fk : tF) (Ak : tA) (Fp : tF) (Ap : tA) (Fb : tF) (Ab : tA) (Fd : tF) (Ad : tA) (Ff : tF) (Af : tA) (fr : tF) (gsh : tG) (gsv : tG) (fs : tF) (FM : tF) (AM : tA) : List va_W := [wX6 o q F, wX2 cI cZ (q 0) qn Fn An, wX2 cI cZ (q 1) qt Ft At, wX2 cI cZ (q 2) qk Fk Ak, wX3 cI cZ (q 4) qp Fp Ap, wX0 cI cZ (q 5) qb Fb Ab, wX1 cI cZ (q 6) qd Fd Ad, wX4 cI cZ (q 7) qf Ff Af, wI cI (q 8) 30 fr, wQ cR (q 10) gsh, wQ cR (q 11) gsv, wI cI (q 12) 4 fs, wX7 cI cZ om qm FM AM]
/-- from behind a call on -/
abbrev LKT (p : Program) (l : Launch) (e : Env) (s : State) (m : MethodId) (args : Array Value) (below : List Frame) (meth : Method) (c : Code) (Q : State → Prop) (D : va_G) (cI cZ cR : ClassId) (A9 : Nat → Prop) (o : Nat) (q qn qt qk qp qb qd qf : Nat → Nat) (om : Nat) (qm : Nat → Nat) (cells slots : Nat) (ls : Array Slot) : Prop := ∀ (F : tF) (Fn : tF) (An : tA) (Ft : tF) (At : tA) (Fk : tF) (Ak : tA) (Fp : tF) (Ap : tA) (Fb : tF) (Ab : tA) (Fd : tF) (Ad : tA) (Ff : tF) (Af : tA) (fr : tF) (gsh : tG) (gsv : tG) (fs : tF) (FM : tF) (AM : tA) (RL : List RowE) (H : Heap) (locs : List Loc), LI F Fn An Fk Ak Fp Ap Ff Af fr gsh gsv fs FM AM RL → va_P D vwCl (WW cI cZ cR o q qn qt qk qp qb qd qf om qm F Fn An Ft At Fk Ak Fp Ap Fb Ab Fd Ad Ff Af fr gsh gsv fs FM AM ++ [wRows cI cZ RL]).flatten H → va_D A9 (WW cI cZ cR o q qn qt qk qp qb qd qf om qm F Fn An Ft At Fk Ak Fp Ap Fb Ab Fd Ad Ff Af fr gsh gsv fs FM AM ++ [wRows cI cZ RL]).flatten → va_S A9 s.heap H locs → W p l e room_1 s m args below meth c H locs cells slots Q (F0 m 1919 ls [])
theorem lg_same {x y : Int64} (h : x = y) : lg_cmp x y = 0 := by
  subst h
  have h1 : ¬ lg_cmp x x < 0 := fun w => Int64.lt_irrefl ((lc_lt x x).mp w)
  have h2 : ¬ 0 < lg_cmp x x := fun w => Int64.lt_irrefl ((lc_gt x x).mp w)
  exact Int32.le_antisymm (Int32.not_lt.mp h2) (Int32.not_lt.mp h1)
/-- what feed is given -/
def fdL (xs : Nat → Int32) (i : Nat) : Int64 := ((xs (i + 1)).toInt64 <<< ((32 : Int32).toInt64 &&& 63)) ||| ((xs (i + 2)).toInt64 &&& (4294967295 : Int64))
section LAWM
variable {p : Program} {l : Launch} {e : Env} {R : Room} {s : State} {m : MethodId} {args : Array Value} {below : List Frame} {meth : Method} {c : Code} {H : Heap} {locs : List Loc} {cells slots : Nat} {Q : State → Prop} {ls : Array Slot} {A9 : Nat → Prop} {b L i o om : Nat} {xs : Nat → Int32} {cc : ByteArray} {pc : Nat} {rest : List Value}
theorem ld_arg (hx : p.tables.exec = Jvm.exec) (hb : c.code = cc) (hX : va_X b L xs s s.heap) (hbl : b < s.heap.size) (hbA : ¬ A9 b) (hS : va_S A9 s.heap H locs) (hl : lv_has ls 4 [(0, .ref b), (1, .ref o), (2, .ref om), (3, .int (nI i))]) {j : Nat} (hij : i + j < L) (hL : L ≤ 2560) {v : Int} (hv : Int32.ofInt v = nI j) (d0 : decode cc pc = .ok (.aload_n 0, 1)) (d1 : decode cc (pc + 1) = .ok (.iload_n 3, 1)) (d2 : decode cc (pc + 2) = .ok (.iconst v, 1)) (d3 : decode cc (pc + 3) = .ok (.iadd, 1)) (d4 : decode cc (pc + 4) = .ok (.iaload, 1))
    (k : W p l e R s m args below meth c H locs cells slots Q (F0 m (pc + 5) ls (.int (xs (i + j)) :: rest))) : W p l e R s m args below meth c H locs cells slots Q (F0 m pc ls rest) := by
  refine lv_aload_n hx hb d0 rfl (lv_at hl 0 rfl) ?_
  refine lv_iload_n hx hb d1 rfl (lv_at hl 3 rfl) ?_
  refine lv_iconst (v := nI j) hx hb d2 hv ?_
  refine lv_iadd hx hb d3 ?_
  rw [nI_add]
  refine va_sld hx hb hX hbl hbA hS (vp_in_nI hij (by omega)) d4 ?_
  rw [nI_clamp (by omega)]
  exact k
theorem ld_long (hx : p.tables.exec = Jvm.exec) (hb : c.code = cc) (ht : ∀ w ∈ wsL_law, w.before args s = true) (hown : s.vm.findClass "DogVotesLaw" = some m.cls) (hX : va_X b L xs s s.heap) (hbl : b < s.heap.size) (hbA : ¬ A9 b) (hS : va_S A9 s.heap H locs) (hl : lv_has ls 4 [(0, .ref b), (1, .ref o), (2, .ref om), (3, .int (nI i))]) (hij : i + 4 < L) (hL : L ≤ 2560) (d0 : decode cc pc = .ok (.aload_n 0, 1)) (d1 : decode cc (pc + 1) = .ok (.iload_n 3, 1)) (d2 : decode cc (pc + 2) = .ok (.iconst 1, 1)) (d3 : decode cc (pc + 3) = .ok (.iadd, 1)) (d4 : decode cc (pc + 4) = .ok (.iaload, 1)) (d5 : decode cc (pc + 5) = .ok (.i2l, 1)) (d6 : decode cc (pc + 6) = .ok (.bipush 32, 2)) (d8 : decode cc (pc + 8) = .ok (.lshl, 1)) (d9 : decode cc (pc + 9) = .ok (.aload_n 0, 1)) (d10 : decode cc (pc + 10) = .ok (.iload_n 3, 1)) (d11 : decode cc (pc + 11) = .ok (.iconst 2, 1)) (d12 : decode cc (pc + 12) = .ok (.iadd, 1)) (d13 : decode cc (pc + 13) = .ok (.iaload, 1)) (d14 : decode cc (pc + 14) = .ok (.i2l, 1)) (d15 : decode cc (pc + 15) = .ok (.ldc2_w 13, 3)) (d18 : decode cc (pc + 18) = .ok (.land, 1)) (d19 : decode cc (pc + 19) = .ok (.lor, 1))
    (k : W p l e R s m args below meth c H locs cells slots Q (F0 m (pc + 20) ls (.long (fdL xs i) :: rest))) : W p l e R s m args below meth c H locs cells slots Q (F0 m pc ls rest) := by
  refine ld_arg (j := 1) hx hb hX hbl hbA hS hl (by omega) hL rfl d0 d1 d2 d3 d4 ?_
  refine lv_i2l hx hb d5 rfl ?_
  refine lv_bipush (v := 32) hx hb d6 (by decide) ?_
  refine lv_lshl hx hb d8 rfl ?_
  refine ld_arg (j := 2) hx hb hX hbl hbA hS hl (by omega) hL rfl d9 d10 d11 d12 d13 ?_
  refine lv_i2l hx hb d14 rfl ?_
  refine lv_ldc2 hx hb hown (ht _ mw_1_6) d15 ?_
  refine lv_land hx hb d18 ?_
  refine lv_lor hx hb d19 ?_
  exact k
end LAWM
section LIV2
variable {F Fn : tF} {An : tA} {Fk : tF} {Ak : tA} {Fp : tF} {Ap : tA} {Ff : tF} {Af : tA} {fr : tF} {gsh gsv : tG} {fs FM : tF} {AM : tA} {RL : List RowE}
theorem LI.putN (h : LI F Fn An Fk Ak Fp Ap Ff Af fr gsh gsv fs FM AM RL) {r r' : Int32} {FM' : tF} {AM' : tA} (n : r = r' ∧ FM' = FM ∧ AM' = AM) : LI F Fn An Fk Ak Fp Ap Ff Af fr gsh gsv fs FM' AM' RL := by
  obtain ⟨-, rfl, rfl⟩ := n
  exact h
theorem LI.put (h : LI F Fn An Fk Ak Fp Ap Ff Af fr gsh gsv fs FM AM RL) {k : Nat} {x : RowE} {FM' : tF} (eF : FM' = FM) (hk0 : RL[k]? = some x) {it : tF} {AM' : tA} (K : ∀ k, k ≠ 18 → AM' k = AM k) (hs : IvS gsh (RL.set k (rPut x it)) AM') : LI F Fn An Fk Ak Fp Ap Ff Af fr gsh gsv fs FM' AM' (RL.set k (rPut x it)) := by
  subst eF
  exact ⟨h.z.cg (K 0 (by omega)) (K 2 (by omega)) (K 3 (by omega)), h.k.cg rfl rfl (K 1 (by omega)), h.t.cg rfl (K 5 (by omega)), h.r.cg rfl rfl (K 14 (by omega)), h.f.cg rfl (K 22 (by omega)), hs, (h.h.keep (K 19 (by omega)) (K 20 (by omega)) (K 21 (by omega))).put hk0 it⟩
theorem IvS.cases (h : IvS gsh RL AM) (y : Int32) : (∀ t, t < 4 → y = nI t → SN gsh AM t) ∨ ∃ t, t < 4 ∧ y = nI t ∧ ∃ (k : Nat) (x : RowE), RL[k]? = some x ∧ SR gsh AM t (rO x) (rN x) (rS' x) (rI x) ∧ ∀ (A' : tA) (it' : tF), A' 16 = AM 16 → A' 17 = AM 17 → (∀ j, j < rN x → A' 18 (40 * t + j) = it' j) → (∀ k, (k < 40 * t ∨ 40 * t + 40 ≤ k) → A' 18 k = AM 18 k) → IvS gsh (RL.set k (rPut x it')) A' := by
  by_cases hy : inR y 4
  · obtain ⟨t, ht, rfl⟩ := hy
    rcases h.at2 ht with a | a
    · refine Or.inl (fun t' ht' e => ?_)
      have := (nI_eq (a := t) (b := t') (by omega) (by omega)).mp e
      subst this
      exact a
    · exact Or.inr ⟨t, ht, rfl, a⟩
  · exact Or.inl (fun t ht e => absurd ⟨t, ht, e⟩ hy)
theorem IvH.cases (h : IvH gsv fs RL AM) (y : Int32) : (∀ t, t < 4 → y = nI t → gsv t = none ∧ ((fs t = -1 ∧ AM 19 t = 0) ∨ ∃ o : Nat, o < 8 ∧ fs t = nI o ∧ AM 19 t = 1 ∧ AM 20 t = nI o)) ∨ ∃ t, t < 4 ∧ y = nI t ∧ ∃ (k : Nat) (x : RowE), RL[k]? = some x ∧ gsv t = some (rO x) ∧ AM 19 t = 2 ∧ AM 20 t = rS' x ∧ AM 21 t = nI (rN x) := by
  by_cases hy : inR y 4
  · obtain ⟨t, ht, rfl⟩ := hy
    have T : ∀ t', t' < 4 → nI t = nI t' → t = t' := fun t' ht' e => (nI_eq (a := t) (b := t') (by omega) (by omega)).mp e
    rcases h t ht with ⟨a, b, c⟩ | ⟨o, ho, a, b, c, d⟩ | ⟨k, x, hk, a, b, c, d, -, f, -⟩
    · exact Or.inl (fun t' ht' e => by
        have := T t' ht' e
        subst this
        exact ⟨a, Or.inl ⟨b, c⟩⟩)
    · exact Or.inl (fun t' ht' e => by
        have := T t' ht' e
        subst this
        exact ⟨a, Or.inr ⟨o, ho, b, c, d⟩⟩)
    · exact Or.inr ⟨t, ht, rfl, k, x, hk, a, c, d, f⟩
  · exact Or.inl (fun t ht e => absurd ⟨t, ht, e⟩ hy)
end LIV2
