theorem ww_cwm_0 : ww_cw 0 ∈ lw_tbl := (List.mem_append_right _ (List.mem_append_right _ (List.mem_append_left _ (List.mem_of_getElem? (i := 4) rfl))) : (.code yX0_init cX0_init 2 none : Cond) ∈ lw_tbl)
theorem ww_cwm_1 : ww_cw 1 ∈ lw_tbl := (List.mem_append_right _ (List.mem_append_right _ (List.mem_append_left _ (List.mem_of_getElem? (i := 207) rfl))) : (.code yX0_lastDay cX0_lastDay 1 (some .int) : Cond) ∈ lw_tbl)
theorem ww_cwm_2 : ww_cw 2 ∈ lw_tbl := (List.mem_append_right _ (List.mem_append_right _ (List.mem_append_left _ (List.mem_of_getElem? (i := 203) rfl))) : (.code yX0_gotMeterOn cX0_gotMeterOn 2 (some .boolean) : Cond) ∈ lw_tbl)
theorem ww_cwm_3 : ww_cw 3 ∈ lw_tbl := (List.mem_append_right _ (List.mem_append_right _ (List.mem_append_left _ (List.mem_of_getElem? (i := 211) rfl))) : (.code yX0_addMeter cX0_addMeter 4 (some .int) : Cond) ∈ lw_tbl)
theorem ww_cwm_4 : ww_cw 4 ∈ lw_tbl := (List.mem_append_right _ (List.mem_append_right _ (List.mem_append_left _ (List.mem_of_getElem? (i := 227) rfl))) : (.code yX0_addReading cX0_addReading 3 (some .int) : Cond) ∈ lw_tbl)
theorem ww_cwm_5 : ww_cw 5 ∈ lw_tbl := (List.mem_append_right _ (List.mem_append_right _ (List.mem_append_left _ (List.mem_of_getElem? (i := 215) rfl))) : (.code yX0_enter cX0_enter 5 (some .int) : Cond) ∈ lw_tbl)
theorem ww_cwm_6 : ww_cw 6 ∈ lw_tbl := (List.mem_append_right _ (List.mem_append_right _ (List.mem_append_right _ (List.mem_append_left _ (List.mem_of_getElem? (i := 5) rfl)))) : (.code yX0_countOn cX0_countOn 4 (some .int) : Cond) ∈ lw_tbl)
theorem ww_cwm_7 : ww_cw 7 ∈ lw_tbl := (List.mem_append_right _ (List.mem_append_right _ (List.mem_append_right _ (List.mem_append_left _ (List.mem_of_getElem? (i := 9) rfl)))) : (.code yX0_useBefore cX0_useBefore 3 (some .int) : Cond) ∈ lw_tbl)
theorem ww_cwm_8 : ww_cw 8 ∈ lw_tbl := (List.mem_append_right _ (List.mem_append_right _ (List.mem_append_right _ (List.mem_append_left _ (List.mem_of_getElem? (i := 52) rfl)))) : (.code yX0_billBegin cX0_billBegin 2 (some .int) : Cond) ∈ lw_tbl)
theorem ww_cwm_9 : ww_cw 9 ∈ lw_tbl := (List.mem_append_right _ (List.mem_append_right _ (List.mem_append_right _ (List.mem_append_left _ (List.mem_of_getElem? (i := 80) rfl)))) : (.code yX0_addBill cX0_addBill 4 none : Cond) ∈ lw_tbl)
theorem ww_cwm_10 : ww_cw 10 ∈ lw_tbl := (List.mem_append_right _ (List.mem_append_right _ (List.mem_append_right _ (List.mem_append_left _ (List.mem_of_getElem? (i := 56) rfl)))) : (.code yX0_price cX0_price 10 (some .long) : Cond) ∈ lw_tbl)
theorem ww_cwm_11 : ww_cw 11 ∈ lw_tbl := (List.mem_append_right _ (List.mem_append_right _ (List.mem_append_right _ (List.mem_append_left _ (List.mem_of_getElem? (i := 91) rfl)))) : (.code yX0_rightTotal cX0_rightTotal 7 (some .long) : Cond) ∈ lw_tbl)
theorem ww_cwm_12 : ww_cw 12 ∈ lw_tbl := (List.mem_append_right _ (List.mem_append_left _ (List.mem_of_getElem? (i := 27) rfl)) : (.code yX1_init cX1_init 1 none : Cond) ∈ lw_tbl)
theorem ww_cwm_13 : ww_cw 13 ∈ lw_tbl := (List.mem_append_right _ (List.mem_append_left _ (List.mem_of_getElem? (i := 230) rfl)) : (.code yX1_has cX1_has 2 (some .boolean) : Cond) ∈ lw_tbl)
theorem ww_cwm_14 : ww_cw 14 ∈ lw_tbl := (List.mem_append_right _ (List.mem_append_left _ (List.mem_of_getElem? (i := 233) rfl)) : (.code yX1_with cX1_with 3 (some .int) : Cond) ∈ lw_tbl)
theorem ww_cwm_15 : ww_cw 15 ∈ lw_tbl := (List.mem_append_right _ (List.mem_append_right _ (List.mem_append_left _ (List.mem_of_getElem? (i := 164) rfl))) : (.code yX1_member cX1_member 4 (some .int) : Cond) ∈ lw_tbl)
theorem ww_cwm_16 : ww_cw 16 ∈ lw_tbl := (List.mem_append_right _ (List.mem_append_left _ (List.mem_of_getElem? (i := 166) rfl)) : (.code yX1_addNode cX1_addNode 1 (some .int) : Cond) ∈ lw_tbl)
theorem ww_cwm_17 : ww_cw 17 ∈ lw_tbl := (List.mem_append_right _ (List.mem_append_left _ (List.mem_of_getElem? (i := 216) rfl)) : (.code yX1_addPipe cX1_addPipe 4 (some .int) : Cond) ∈ lw_tbl)
theorem ww_cwm_18 : ww_cw 18 ∈ lw_tbl := (List.mem_append_right _ (List.mem_append_left _ (List.mem_of_getElem? (i := 227) rfl)) : (.code yX1_setSource cX1_setSource 4 (some .boolean) : Cond) ∈ lw_tbl)
theorem ww_cwm_19 : ww_cw 19 ∈ lw_tbl := (List.mem_append_right _ (List.mem_append_right _ (List.mem_append_left _ (List.mem_of_getElem? (i := 63) rfl))) : (.code yX1_hasValve cX1_hasValve 2 (some .boolean) : Cond) ∈ lw_tbl)
theorem ww_cwm_20 : ww_cw 20 ∈ lw_tbl := (List.mem_append_right _ (List.mem_append_right _ (List.mem_append_left _ (List.mem_of_getElem? (i := 82) rfl))) : (.code yX1_isStuck cX1_isStuck 2 (some .boolean) : Cond) ∈ lw_tbl)
theorem ww_cwm_21 : ww_cw 21 ∈ lw_tbl := (List.mem_append_right _ (List.mem_append_right _ (List.mem_append_left _ (List.mem_of_getElem? (i := 86) rfl))) : (.code yX1_setShut cX1_setShut 4 (some .boolean) : Cond) ∈ lw_tbl)
theorem ww_cwm_22 : ww_cw 22 ∈ lw_tbl := (List.mem_append_right _ (List.mem_append_right _ (List.mem_append_left _ (List.mem_of_getElem? (i := 97) rfl))) : (.code yX1_setStuck cX1_setStuck 4 (some .boolean) : Cond) ∈ lw_tbl)
theorem ww_cwm_23 : ww_cw 23 ∈ lw_tbl := (List.mem_append_right _ (List.mem_append_right _ (List.mem_append_left _ (List.mem_of_getElem? (i := 182) rfl))) : (.code yX1_shutAll cX1_shutAll 2 none : Cond) ∈ lw_tbl)
theorem ww_cwm_24 : ww_cw 24 ∈ lw_tbl := (List.mem_append_right _ (List.mem_append_right _ (List.mem_append_left _ (List.mem_of_getElem? (i := 108) rfl))) : (.code yX1_fedPlaces cX1_fedPlaces 2 (some .int) : Cond) ∈ lw_tbl)
theorem ww_cwm_25 : ww_cw 25 ∈ lw_tbl := (List.mem_append_right _ (List.mem_append_right _ (List.mem_append_left _ (List.mem_of_getElem? (i := 135) rfl))) : (.code yX1_hasPlan cX1_hasPlan 2 (some .boolean) : Cond) ∈ lw_tbl)
theorem ww_cwm_26 : ww_cw 26 ∈ lw_tbl := (List.mem_append_right _ (List.mem_append_right _ (List.mem_append_left _ (List.mem_of_getElem? (i := 143) rfl))) : (.code yX1_planValves cX1_planValves 5 (some .int) : Cond) ∈ lw_tbl)
theorem ww_cwm_27 : ww_cw 27 ∈ lw_tbl := (List.mem_append_right _ (List.mem_append_right _ (List.mem_append_left _ (List.mem_of_getElem? (i := 139) rfl))) : (.code yX1_reach cX1_reach 2 (some .int) : Cond) ∈ lw_tbl)
theorem ww_cwm_28 : ww_cw 28 ∈ lw_tbl := (List.mem_append_right _ (List.mem_append_right _ (List.mem_append_left _ (List.mem_of_getElem? (i := 147) rfl))) : (.code yX1_border cX1_border 6 (some .int) : Cond) ∈ lw_tbl)
theorem ww_cwm_29 : ww_cw 29 ∈ lw_tbl := (List.mem_append_right _ (List.mem_append_right _ (List.mem_append_left _ (List.mem_of_getElem? (i := 112) rfl))) : (.code yX1_spread cX1_spread 7 (some .int) : Cond) ∈ lw_tbl)
theorem ww_cwm_30 : ww_cw 30 ∈ lw_tbl := (List.mem_append_right _ (List.mem_append_right _ (List.mem_append_left _ (List.mem_of_getElem? (i := 116) rfl))) : (.code yX1_sides cX1_sides 2 (some .int) : Cond) ∈ lw_tbl)
theorem ww_cwm_31 : ww_cw 31 ∈ lw_tbl := (List.mem_append_right _ (List.mem_append_right _ (List.mem_append_left _ (List.mem_of_getElem? (i := 119) rfl))) : (.code yX1_middle cX1_middle 1 (some .int) : Cond) ∈ lw_tbl)
theorem ww_cwm_32 : ww_cw 32 ∈ lw_tbl := (List.mem_append_right _ (List.mem_append_left _ (List.mem_of_getElem? (i := 58) rfl)) : (.code yX2_init cX2_init 1 none : Cond) ∈ lw_tbl)
theorem ww_cwm_33 : ww_cw 33 ∈ lw_tbl := (List.mem_append_right _ (List.mem_append_right _ (List.mem_append_right _ (List.mem_append_left _ (List.mem_of_getElem? (i := 19) rfl)))) : (.code yX2_isGood cX2_isGood 2 (some .boolean) : Cond) ∈ lw_tbl)
theorem ww_cwm_34 : ww_cw 34 ∈ lw_tbl := (List.mem_append_right _ (List.mem_append_right _ (List.mem_append_right _ (List.mem_append_left _ (List.mem_of_getElem? (i := 22) rfl)))) : (.code yX2_field cX2_field 3 (some .long) : Cond) ∈ lw_tbl)
theorem ww_cwm_35 : ww_cw 35 ∈ lw_tbl := (List.mem_append_right _ (List.mem_append_right _ (List.mem_append_right _ (List.mem_append_left _ (List.mem_of_getElem? (i := 32) rfl)))) : (.code yX2_holdingOn cX2_holdingOn 4 (some .int) : Cond) ∈ lw_tbl)
theorem ww_cwm_36 : ww_cw 36 ∈ lw_tbl := (List.mem_append_right _ (List.mem_append_right _ (List.mem_append_right _ (List.mem_append_left _ (List.mem_of_getElem? (i := 28) rfl)))) : (.code yX2_hasOneOf cX2_hasOneOf 3 (some .boolean) : Cond) ∈ lw_tbl)
theorem ww_cwm_37 : ww_cw 37 ∈ lw_tbl := (List.mem_append_right _ (List.mem_append_right _ (List.mem_append_right _ (List.mem_append_left _ (List.mem_of_getElem? (i := 36) rfl)))) : (.code yX2_put cX2_put 6 (some .int) : Cond) ∈ lw_tbl)
theorem ww_cwm_38 : ww_cw 38 ∈ lw_tbl := (List.mem_append_right _ (List.mem_append_right _ (List.mem_append_right _ (List.mem_append_left _ (List.mem_of_getElem? (i := 41) rfl)))) : (.code yX2_makeRoom cX2_makeRoom 3 none : Cond) ∈ lw_tbl)
theorem ww_cwm_39 : ww_cw 39 ∈ lw_tbl := (List.mem_append_right _ (List.mem_append_right _ (List.mem_append_right _ (List.mem_append_left _ (List.mem_of_getElem? (i := 63) rfl)))) : (.code yX2_partEnd cX2_partEnd 3 (some .int) : Cond) ∈ lw_tbl)
theorem ww_cwm_40 : ww_cw 40 ∈ lw_tbl := (List.mem_append_right _ (List.mem_append_right _ (List.mem_append_right _ (List.mem_append_left _ (List.mem_of_getElem? (i := 70) rfl)))) : (.code yX2_partPrice cX2_partPrice 12 (some .long) : Cond) ∈ lw_tbl)
theorem ww_cwm_41 : ww_cw 41 ∈ lw_tbl := (List.mem_append_right _ (List.mem_append_left _ (List.mem_of_getElem? (i := 19) rfl)) : (.code yX3_init cX3_init 1 none : Cond) ∈ lw_tbl)
theorem ww_cwm_42 : ww_cw 42 ∈ lw_tbl := (List.mem_append_right _ (List.mem_append_left _ (List.mem_of_getElem? (i := 98) rfl)) : (.code yX3_node cX3_node 1 (some .int) : Cond) ∈ lw_tbl)
theorem ww_cwm_43 : ww_cw 43 ∈ lw_tbl := (List.mem_append_right _ (List.mem_append_left _ (List.mem_of_getElem? (i := 175) rfl)) : (.code yX3_pipe cX3_pipe 4 (some .int) : Cond) ∈ lw_tbl)
theorem ww_cwm_44 : ww_cw 44 ∈ lw_tbl := (List.mem_append_right _ (List.mem_append_left _ (List.mem_of_getElem? (i := 223) rfl)) : (.code yX3_source cX3_source 3 (some .boolean) : Cond) ∈ lw_tbl)
theorem ww_cwm_45 : ww_cw 45 ∈ lw_tbl := (List.mem_append_right _ (List.mem_append_right _ (List.mem_append_left _ (List.mem_of_getElem? (i := 0) rfl))) : (.code yX3_customer cX3_customer 2 (some .int) : Cond) ∈ lw_tbl)
theorem ww_cwm_46 : ww_cw 46 ∈ lw_tbl := (List.mem_append_right _ (List.mem_append_right _ (List.mem_append_left _ (List.mem_of_getElem? (i := 51) rfl))) : (.code yX3_turn cX3_turn 5 (some .boolean) : Cond) ∈ lw_tbl)
theorem ww_cwm_47 : ww_cw 47 ∈ lw_tbl := (List.mem_append_right _ (List.mem_append_right _ (List.mem_append_left _ (List.mem_of_getElem? (i := 93) rfl))) : (.code yX3_stick cX3_stick 4 (some .boolean) : Cond) ∈ lw_tbl)
theorem ww_cwm_48 : ww_cw 48 ∈ lw_tbl := (List.mem_append_right _ (List.mem_append_right _ (List.mem_append_left _ (List.mem_of_getElem? (i := 104) rfl))) : (.code yX3_fed cX3_fed 2 (some .boolean) : Cond) ∈ lw_tbl)
theorem ww_cwm_49 : ww_cw 49 ∈ lw_tbl := (List.mem_append_right _ (List.mem_append_right _ (List.mem_append_left _ (List.mem_of_getElem? (i := 131) rfl))) : (.code yX3_shutOff cX3_shutOff 2 (some .int) : Cond) ∈ lw_tbl)
theorem ww_cwm_50 : ww_cw 50 ∈ lw_tbl := (List.mem_append_right _ (List.mem_append_right _ (List.mem_append_left _ (List.mem_of_getElem? (i := 161) rfl))) : (.code yX3_plan cX3_plan 3 (some .int) : Cond) ∈ lw_tbl)
theorem ww_cwm_51 : ww_cw 51 ∈ lw_tbl := (List.mem_append_right _ (List.mem_append_right _ (List.mem_append_left _ (List.mem_of_getElem? (i := 171) rfl))) : (.code yX3_dry cX3_dry 5 (some .int) : Cond) ∈ lw_tbl)
theorem ww_cwm_52 : ww_cw 52 ∈ lw_tbl := (List.mem_append_right _ (List.mem_append_right _ (List.mem_append_left _ (List.mem_of_getElem? (i := 178) rfl))) : (.code yX3_carryOut cX3_carryOut 3 (some .int) : Cond) ∈ lw_tbl)
theorem ww_cwm_53 : ww_cw 53 ∈ lw_tbl := (List.mem_append_right _ (List.mem_append_right _ (List.mem_append_left _ (List.mem_of_getElem? (i := 189) rfl))) : (.code yX3_pass cX3_pass 2 (some .int) : Cond) ∈ lw_tbl)
theorem ww_cwm_54 : ww_cw 54 ∈ lw_tbl := (List.mem_append_right _ (List.mem_append_right _ (List.mem_append_left _ (List.mem_of_getElem? (i := 196) rfl))) : (.code yX3_install cX3_install 5 (some .int) : Cond) ∈ lw_tbl)
theorem ww_cwm_55 : ww_cw 55 ∈ lw_tbl := (List.mem_append_right _ (List.mem_append_right _ (List.mem_append_left _ (List.mem_of_getElem? (i := 222) rfl))) : (.code yX3_read cX3_read 4 (some .int) : Cond) ∈ lw_tbl)
theorem ww_cwm_56 : ww_cw 56 ∈ lw_tbl := (List.mem_append_right _ (List.mem_append_right _ (List.mem_append_left _ (List.mem_of_getElem? (i := 234) rfl))) : (.code yX3_amend cX3_amend 6 (some .int) : Cond) ∈ lw_tbl)
theorem ww_cwm_57 : ww_cw 57 ∈ lw_tbl := (List.mem_append_right _ (List.mem_append_right _ (List.mem_append_right _ (List.mem_append_left _ (List.mem_of_getElem? (i := 1) rfl)))) : (.code yX3_used cX3_used 7 (some .int) : Cond) ∈ lw_tbl)
theorem ww_cwm_58 : ww_cw 58 ∈ lw_tbl := (List.mem_append_right _ (List.mem_append_right _ (List.mem_append_right _ (List.mem_append_left _ (List.mem_of_getElem? (i := 16) rfl)))) : (.code yX3_tariff cX3_tariff 4 (some .int) : Cond) ∈ lw_tbl)
theorem ww_cwm_59 : ww_cw 59 ∈ lw_tbl := (List.mem_append_right _ (List.mem_append_right _ (List.mem_append_right _ (List.mem_append_left _ (List.mem_of_getElem? (i := 48) rfl)))) : (.code yX3_bill cX3_bill 7 (some .long) : Cond) ∈ lw_tbl)
theorem ww_cwm_60 : ww_cw 60 ∈ lw_tbl := (List.mem_append_right _ (List.mem_append_right _ (List.mem_append_right _ (List.mem_append_left _ (List.mem_of_getElem? (i := 87) rfl)))) : (.code yX3_correct cX3_correct 7 (some .long) : Cond) ∈ lw_tbl)
theorem ww_cwm_61 : ww_cw 61 ∈ lw_tbl := (List.mem_append_right _ (List.mem_append_right _ (List.mem_append_right _ (List.mem_append_left _ (List.mem_of_getElem? (i := 100) rfl)))) : (.code yX3_pay cX3_pay 4 (some .long) : Cond) ∈ lw_tbl)
theorem ww_cwm_62 : ww_cw 62 ∈ lw_tbl := (List.mem_append_right _ (List.mem_append_left _ (List.mem_of_getElem? (i := 179) rfl)) : (.code yX3_needNode cX3_needNode 2 none : Cond) ∈ lw_tbl)
theorem ww_cwm_63 : ww_cw 63 ∈ lw_tbl := (List.mem_append_right _ (List.mem_append_right _ (List.mem_append_left _ (List.mem_of_getElem? (i := 59) rfl))) : (.code yX3_needPipe cX3_needPipe 2 none : Cond) ∈ lw_tbl)
theorem ww_cwm_64 : ww_cw 64 ∈ lw_tbl := (List.mem_append_right _ (List.mem_append_right _ (List.mem_append_left _ (List.mem_of_getElem? (i := 123) rfl))) : (.code yX3_customerAt cX3_customerAt 2 (some (.object "WaterWorks$Customer")) : Cond) ∈ lw_tbl)
theorem ww_cwm_65 : ww_cw 65 ∈ lw_tbl := (List.mem_append_right _ (List.mem_append_right _ (List.mem_append_left _ (List.mem_of_getElem? (i := 55) rfl))) : (.code yX3_valveAt cX3_valveAt 4 (some .int) : Cond) ∈ lw_tbl)
theorem ww_cwm_66 : ww_cw 66 ∈ lw_tbl := (List.mem_append_right _ (List.mem_append_left _ (List.mem_of_getElem? (i := 182) rfl)) : (.code yX3_isBelow cX3_isBelow 2 (some .boolean) : Cond) ∈ lw_tbl)
theorem ww_cwm_67 : ww_cw 67 ∈ lw_tbl := (List.mem_append_right _ (List.mem_append_right _ (List.mem_append_left _ (List.mem_of_getElem? (i := 199) rfl))) : (.code yX3_numbersOf cX3_numbersOf 3 (some .int) : Cond) ∈ lw_tbl)
theorem ww_cwm_68 : ww_cw 68 ∈ lw_tbl := (List.mem_append_right _ (List.mem_append_right _ (List.mem_append_right _ (List.mem_append_left _ (List.mem_of_getElem? (i := 105) rfl)))) : (.code yX4_init cX4_init 1 none : Cond) ∈ lw_tbl)
theorem ww_cwm_69 : ww_cw 69 ∈ lw_tbl := (List.mem_append_right _ (List.mem_append_right _ (List.mem_append_right _ (List.mem_append_left _ (List.mem_of_getElem? (i := 198) rfl)))) : (.code yX4_thrown cX4_thrown 1 (some .int) : Cond) ∈ lw_tbl)
theorem ww_cwm_70 : ww_cw 70 ∈ lw_tbl := (List.mem_append_right _ (List.mem_append_right _ (List.mem_append_right _ (List.mem_append_left _ (List.mem_of_getElem? (i := 210) rfl)))) : (.code yX4_noNode cX4_noNode 2 (some .boolean) : Cond) ∈ lw_tbl)
theorem ww_cwm_71 : ww_cw 71 ∈ lw_tbl := (List.mem_append_right _ (List.mem_append_right _ (List.mem_append_right _ (List.mem_append_left _ (List.mem_of_getElem? (i := 230) rfl)))) : (.code yX4_noPipe cX4_noPipe 2 (some .boolean) : Cond) ∈ lw_tbl)
theorem ww_cwm_72 : ww_cw 72 ∈ lw_tbl := (List.mem_append_right _ (List.mem_append_right _ (List.mem_append_right _ (List.mem_append_left _ (List.mem_of_getElem? (i := 226) rfl)))) : (.code yX4_noEnd cX4_noEnd 3 (some .boolean) : Cond) ∈ lw_tbl)
theorem ww_cwm_73 : ww_cw 73 ∈ lw_tbl := (List.mem_append_right _ (List.mem_append_right _ (List.mem_append_right _ (List.mem_append_right _ (List.mem_of_getElem? (i := 2) rfl)))) : (.code yX4_noCustomer cX4_noCustomer 2 (some .boolean) : Cond) ∈ lw_tbl)
theorem ww_cwm_74 : ww_cw 74 ∈ lw_tbl := (List.mem_append_right _ (List.mem_append_right _ (List.mem_append_right _ (List.mem_append_left _ (List.mem_of_getElem? (i := 202) rfl)))) : (.code yX4_node cX4_node 1 (some .int) : Cond) ∈ lw_tbl)
theorem ww_cwm_75 : ww_cw 75 ∈ lw_tbl := (List.mem_append_right _ (List.mem_append_right _ (List.mem_append_right _ (List.mem_append_left _ (List.mem_of_getElem? (i := 206) rfl)))) : (.code yX4_pipe cX4_pipe 5 (some .int) : Cond) ∈ lw_tbl)
theorem ww_cwm_76 : ww_cw 76 ∈ lw_tbl := (List.mem_append_right _ (List.mem_append_right _ (List.mem_append_right _ (List.mem_append_left _ (List.mem_of_getElem? (i := 214) rfl)))) : (.code yX4_source cX4_source 4 (some .boolean) : Cond) ∈ lw_tbl)
theorem ww_cwm_77 : ww_cw 77 ∈ lw_tbl := (List.mem_append_right _ (List.mem_append_right _ (List.mem_append_right _ (List.mem_append_left _ (List.mem_of_getElem? (i := 218) rfl)))) : (.code yX4_customer cX4_customer 2 (some .int) : Cond) ∈ lw_tbl)
theorem ww_cwm_78 : ww_cw 78 ∈ lw_tbl := (List.mem_append_right _ (List.mem_append_right _ (List.mem_append_right _ (List.mem_append_left _ (List.mem_of_getElem? (i := 222) rfl)))) : (.code yX4_turn cX4_turn 6 (some .boolean) : Cond) ∈ lw_tbl)
theorem ww_cwm_79 : ww_cw 79 ∈ lw_tbl := (List.mem_append_right _ (List.mem_append_right _ (List.mem_append_right _ (List.mem_append_left _ (List.mem_of_getElem? (i := 234) rfl)))) : (.code yX4_stick cX4_stick 6 (some .boolean) : Cond) ∈ lw_tbl)
theorem ww_cwm_80 : ww_cw 80 ∈ lw_tbl := (List.mem_append_right _ (List.mem_append_right _ (List.mem_append_right _ (List.mem_append_right _ (List.mem_of_getElem? (i := 10) rfl)))) : (.code yX4_spread cX4_spread 4 none : Cond) ∈ lw_tbl)
theorem ww_cwm_81 : ww_cw 81 ∈ lw_tbl := (List.mem_append_right _ (List.mem_append_right _ (List.mem_append_right _ (List.mem_append_right _ (List.mem_of_getElem? (i := 6) rfl)))) : (.code yX4_feed cX4_feed 3 none : Cond) ∈ lw_tbl)
theorem ww_cwm_82 : ww_cw 82 ∈ lw_tbl := (List.mem_append_right _ (List.mem_append_right _ (List.mem_append_right _ (List.mem_append_left _ (List.mem_of_getElem? (i := 238) rfl)))) : (.code yX4_fed cX4_fed 2 (some .boolean) : Cond) ∈ lw_tbl)
theorem ww_cwm_83 : ww_cw 83 ∈ lw_tbl := (List.mem_append_right _ (List.mem_append_right _ (List.mem_append_right _ (List.mem_append_right _ (List.mem_of_getElem? (i := 22) rfl)))) : (.code yX4_canTurn cX4_canTurn 2 (some .boolean) : Cond) ∈ lw_tbl)
theorem ww_cwm_84 : ww_cw 84 ∈ lw_tbl := (List.mem_append_right _ (List.mem_append_right _ (List.mem_append_right _ (List.mem_append_right _ (List.mem_of_getElem? (i := 18) rfl)))) : (.code yX4_planFor cX4_planFor 4 (some .boolean) : Cond) ∈ lw_tbl)
theorem ww_cwm_85 : ww_cw 85 ∈ lw_tbl := (List.mem_append_right _ (List.mem_append_right _ (List.mem_append_right _ (List.mem_append_right _ (List.mem_of_getElem? (i := 26) rfl)))) : (.code yX4_shutCount cX4_shutCount 3 (some .int) : Cond) ∈ lw_tbl)
theorem ww_cwm_86 : ww_cw 86 ∈ lw_tbl := (List.mem_append_right _ (List.mem_append_right _ (List.mem_append_right _ (List.mem_append_right _ (List.mem_of_getElem? (i := 14) rfl)))) : (.code yX4_shutOff cX4_shutOff 2 (some .int) : Cond) ∈ lw_tbl)
theorem ww_cwm_87 : ww_cw 87 ∈ lw_tbl := (List.mem_append_right _ (List.mem_append_right _ (List.mem_append_right _ (List.mem_append_right _ (List.mem_of_getElem? (i := 30) rfl)))) : (.code yX4_plan cX4_plan 5 (some .int) : Cond) ∈ lw_tbl)
theorem ww_cwm_88 : ww_cw 88 ∈ lw_tbl := (List.mem_append_right _ (List.mem_append_right _ (List.mem_append_right _ (List.mem_append_right _ (List.mem_of_getElem? (i := 34) rfl)))) : (.code yX4_dry cX4_dry 4 (some .int) : Cond) ∈ lw_tbl)
theorem ww_cwm_89 : ww_cw 89 ∈ lw_tbl := (List.mem_append_right _ (List.mem_append_right _ (List.mem_append_right _ (List.mem_append_right _ (List.mem_of_getElem? (i := 38) rfl)))) : (.code yX4_carryOut cX4_carryOut 3 (some .int) : Cond) ∈ lw_tbl)
theorem ww_cwm_90 : ww_cw 90 ∈ lw_tbl := (List.mem_append_right _ (List.mem_append_right _ (List.mem_append_right _ (List.mem_append_right _ (List.mem_of_getElem? (i := 42) rfl)))) : (.code yX4_pass cX4_pass 2 (some .int) : Cond) ∈ lw_tbl)
theorem ww_cwm_91 : ww_cw 91 ∈ lw_tbl := (List.mem_append_right _ (List.mem_append_right _ (List.mem_append_right _ (List.mem_append_right _ (List.mem_of_getElem? (i := 50) rfl)))) : (.code yX4_note cX4_note 6 (some .int) : Cond) ∈ lw_tbl)
theorem ww_cwm_92 : ww_cw 92 ∈ lw_tbl := (List.mem_append_right _ (List.mem_append_right _ (List.mem_append_right _ (List.mem_append_right _ (List.mem_of_getElem? (i := 46) rfl)))) : (.code yX4_install cX4_install 8 (some .int) : Cond) ∈ lw_tbl)
theorem ww_cwm_93 : ww_cw 93 ∈ lw_tbl := (List.mem_append_right _ (List.mem_append_right _ (List.mem_append_right _ (List.mem_append_right _ (List.mem_of_getElem? (i := 54) rfl)))) : (.code yX4_read cX4_read 5 (some .int) : Cond) ∈ lw_tbl)
theorem ww_cwm_94 : ww_cw 94 ∈ lw_tbl := (List.mem_append_right _ (List.mem_append_right _ (List.mem_append_right _ (List.mem_append_right _ (List.mem_of_getElem? (i := 58) rfl)))) : (.code yX4_amend cX4_amend 7 (some .int) : Cond) ∈ lw_tbl)
theorem ww_cwm_95 : ww_cw 95 ∈ lw_tbl := (List.mem_append_right _ (List.mem_append_right _ (List.mem_append_right _ (List.mem_append_right _ (List.mem_of_getElem? (i := 66) rfl)))) : (.code yX4_countAt cX4_countAt 8 (some .int) : Cond) ∈ lw_tbl)
theorem ww_cwm_96 : ww_cw 96 ∈ lw_tbl := (List.mem_append_right _ (List.mem_append_right _ (List.mem_append_right _ (List.mem_append_right _ (List.mem_of_getElem? (i := 62) rfl)))) : (.code yX4_used cX4_used 4 (some .int) : Cond) ∈ lw_tbl)
theorem ww_cwm_97 : ww_cw 97 ∈ lw_tbl := (List.mem_append_right _ (List.mem_append_right _ (List.mem_append_right _ (List.mem_append_right _ (List.mem_of_getElem? (i := 70) rfl)))) : (.code yX4_tariff cX4_tariff 8 (some .int) : Cond) ∈ lw_tbl)
theorem ww_cwm_98 : ww_cw 98 ∈ lw_tbl := (List.mem_append_right _ (List.mem_append_right _ (List.mem_append_right _ (List.mem_append_right _ (List.mem_of_getElem? (i := 86) rfl)))) : (.code yX4_number cX4_number 3 (some .long) : Cond) ∈ lw_tbl)
theorem ww_cwm_99 : ww_cw 99 ∈ lw_tbl := (List.mem_append_right _ (List.mem_append_right _ (List.mem_append_right _ (List.mem_append_right _ (List.mem_of_getElem? (i := 83) rfl)))) : (.code yX4_part cX4_part 10 (some .long) : Cond) ∈ lw_tbl)
theorem ww_cwm_100 : ww_cw 100 ∈ lw_tbl := (List.mem_append_right _ (List.mem_append_right _ (List.mem_append_right _ (List.mem_append_right _ (List.mem_of_getElem? (i := 79) rfl)))) : (.code yX4_price cX4_price 12 (some .long) : Cond) ∈ lw_tbl)
theorem ww_cwm_101 : ww_cw 101 ∈ lw_tbl := (List.mem_append_right _ (List.mem_append_right _ (List.mem_append_right _ (List.mem_append_right _ (List.mem_of_getElem? (i := 75) rfl)))) : (.code yX4_bill cX4_bill 5 (some .long) : Cond) ∈ lw_tbl)
theorem ww_cwm_102 : ww_cw 102 ∈ lw_tbl := (List.mem_append_right _ (List.mem_append_right _ (List.mem_append_right _ (List.mem_append_right _ (List.mem_of_getElem? (i := 94) rfl)))) : (.code yX4_correct cX4_correct 7 (some .long) : Cond) ∈ lw_tbl)
theorem ww_cwm_103 : ww_cw 103 ∈ lw_tbl := (List.mem_append_right _ (List.mem_append_right _ (List.mem_append_right _ (List.mem_append_right _ (List.mem_of_getElem? (i := 98) rfl)))) : (.code yX4_pay cX4_pay 6 (some .long) : Cond) ∈ lw_tbl)
theorem ww_cwm_104 : ww_cw 104 ∈ lw_tbl := (List.mem_append_right _ (List.mem_append_right _ (List.mem_append_left _ (List.mem_of_getElem? (i := 151) rfl))) : (.code yJ6_bitCount_0f7a4 cJ6_bitCount_0f7a4 1 (some .int) : Cond) ∈ lw_tbl)
theorem ww_cwm_105 : ww_cw 105 ∈ lw_tbl := (List.mem_append_right _ (List.mem_append_right _ (List.mem_append_right _ (List.mem_append_left _ (List.mem_of_getElem? (i := 66) rfl)))) : (.code yJ9_min_7cf53 cJ9_min_7cf53 2 (some .int) : Cond) ∈ lw_tbl)
theorem ww_cwm_106 : ww_cw 106 ∈ lw_tbl := (List.mem_append_right _ (List.mem_append_right _ (List.mem_append_right _ (List.mem_append_left _ (List.mem_of_getElem? (i := 74) rfl)))) : (.code yJ9_min_f86c9 cJ9_min_f86c9 4 (some .long) : Cond) ∈ lw_tbl)
theorem ww_cwm_107 : ww_cw 107 ∈ lw_tbl := (List.mem_append_right _ (List.mem_append_left _ (List.mem_of_getElem? (i := 93) rfl)) : (.codeWith yL_node cL_node 3 (some .int) [(0, 8, 11, 13)] : Cond) ∈ lw_tbl)
theorem ww_cwm_108 : ww_cw 108 ∈ lw_tbl := (List.mem_append_right _ (List.mem_append_left _ (List.mem_of_getElem? (i := 169) rfl)) : (.codeWith yL_pipe cL_pipe 6 (some .int) [(0, 12, 15, 19), (0, 12, 19, 21), (0, 12, 23, 13)] : Cond) ∈ lw_tbl)
theorem ww_cwm_109 : ww_cw 109 ∈ lw_tbl := (List.mem_append_right _ (List.mem_append_left _ (List.mem_of_getElem? (i := 219) rfl)) : (.codeWith yL_source cL_source 5 (some .int) [(0, 17, 20, 19)] : Cond) ∈ lw_tbl)
theorem ww_cwm_110 : ww_cw 110 ∈ lw_tbl := (List.mem_append_right _ (List.mem_append_left _ (List.mem_of_getElem? (i := 236) rfl)) : (.codeWith yL_customer cL_customer 4 (some .int) [(0, 9, 12, 19), (0, 9, 15, 13)] : Cond) ∈ lw_tbl)
theorem ww_cwm_111 : ww_cw 111 ∈ lw_tbl := (List.mem_append_right _ (List.mem_append_right _ (List.mem_append_left _ (List.mem_of_getElem? (i := 46) rfl))) : (.codeWith yL_turn cL_turn 6 (some .int) [(0, 19, 22, 19), (0, 19, 26, 35), (0, 19, 30, 13)] : Cond) ∈ lw_tbl)
theorem ww_cwm_112 : ww_cw 112 ∈ lw_tbl := (List.mem_append_right _ (List.mem_append_right _ (List.mem_append_left _ (List.mem_of_getElem? (i := 89) rfl))) : (.codeWith yL_stick cL_stick 6 (some .int) [(0, 19, 22, 19), (0, 19, 26, 35)] : Cond) ∈ lw_tbl)
theorem ww_cwm_113 : ww_cw 113 ∈ lw_tbl := (List.mem_append_right _ (List.mem_append_right _ (List.mem_append_left _ (List.mem_of_getElem? (i := 100) rfl))) : (.codeWith yL_fed cL_fed 4 (some .int) [(0, 16, 19, 19)] : Cond) ∈ lw_tbl)
theorem ww_cwm_114 : ww_cw 114 ∈ lw_tbl := (List.mem_append_right _ (List.mem_append_right _ (List.mem_append_left _ (List.mem_of_getElem? (i := 127) rfl))) : (.codeWith yL_shutOff cL_shutOff 4 (some .int) [(0, 9, 12, 19)] : Cond) ∈ lw_tbl)
theorem ww_cwm_115 : ww_cw 115 ∈ lw_tbl := (List.mem_append_right _ (List.mem_append_right _ (List.mem_append_left _ (List.mem_of_getElem? (i := 157) rfl))) : (.codeWith yL_plan cL_plan 5 (some .int) [(0, 10, 13, 19)] : Cond) ∈ lw_tbl)
theorem ww_cwm_116 : ww_cw 116 ∈ lw_tbl := (List.mem_append_right _ (List.mem_append_right _ (List.mem_append_left _ (List.mem_of_getElem? (i := 167) rfl))) : (.codeWith yL_dry cL_dry 4 (some .int) [(0, 9, 12, 19)] : Cond) ∈ lw_tbl)
theorem ww_cwm_117 : ww_cw 117 ∈ lw_tbl := (List.mem_append_right _ (List.mem_append_right _ (List.mem_append_left _ (List.mem_of_getElem? (i := 174) rfl))) : (.codeWith yL_carryOut cL_carryOut 4 (some .int) [(0, 9, 12, 19)] : Cond) ∈ lw_tbl)
theorem ww_cwm_118 : ww_cw 118 ∈ lw_tbl := (List.mem_append_right _ (List.mem_append_right _ (List.mem_append_left _ (List.mem_of_getElem? (i := 185) rfl))) : (.codeWith yL_pass cL_pass 4 (some .int) [(0, 9, 12, 21)] : Cond) ∈ lw_tbl)
theorem ww_cwm_119 : ww_cw 119 ∈ lw_tbl := (List.mem_append_right _ (List.mem_append_right _ (List.mem_append_left _ (List.mem_of_getElem? (i := 192) rfl))) : (.codeWith yL_install cL_install 6 (some .int) [(0, 12, 15, 19), (0, 12, 19, 21), (0, 12, 23, 13)] : Cond) ∈ lw_tbl)
theorem ww_cwm_120 : ww_cw 120 ∈ lw_tbl := (List.mem_append_right _ (List.mem_append_right _ (List.mem_append_left _ (List.mem_of_getElem? (i := 218) rfl))) : (.codeWith yL_read cL_read 5 (some .int) [(0, 10, 13, 19), (0, 10, 17, 13), (0, 10, 21, 21)] : Cond) ∈ lw_tbl)
theorem ww_cwm_121 : ww_cw 121 ∈ lw_tbl := (List.mem_append_right _ (List.mem_append_right _ (List.mem_append_left _ (List.mem_of_getElem? (i := 230) rfl))) : (.codeWith yL_amend cL_amend 6 (some .int) [(0, 12, 15, 19), (0, 12, 19, 35), (0, 12, 23, 21)] : Cond) ∈ lw_tbl)
theorem ww_cwm_122 : ww_cw 122 ∈ lw_tbl := (List.mem_append_right _ (List.mem_append_right _ (List.mem_append_left _ (List.mem_of_getElem? (i := 237) rfl))) : (.codeWith yL_used cL_used 6 (some .int) [(0, 12, 15, 19), (0, 12, 19, 21), (0, 12, 23, 35)] : Cond) ∈ lw_tbl)
theorem ww_cwm_123 : ww_cw 123 ∈ lw_tbl := (List.mem_append_right _ (List.mem_append_right _ (List.mem_append_right _ (List.mem_append_left _ (List.mem_of_getElem? (i := 12) rfl)))) : (.codeWith yL_tariff cL_tariff 6 (some .int) [(0, 11, 14, 21), (0, 11, 18, 13)] : Cond) ∈ lw_tbl)
theorem ww_cwm_124 : ww_cw 124 ∈ lw_tbl := (List.mem_append_right _ (List.mem_append_right _ (List.mem_append_right _ (List.mem_append_left _ (List.mem_of_getElem? (i := 44) rfl)))) : (.codeWith yL_bill cL_bill 5 (some .int) [(0, 9, 12, 19), (0, 9, 16, 21), (0, 9, 20, 13), (0, 9, 24, 35)] : Cond) ∈ lw_tbl)
theorem ww_cwm_125 : ww_cw 125 ∈ lw_tbl := (List.mem_append_right _ (List.mem_append_right _ (List.mem_append_right _ (List.mem_append_left _ (List.mem_of_getElem? (i := 83) rfl)))) : (.codeWith yL_correct cL_correct 4 (some .int) [(0, 8, 11, 19), (0, 8, 14, 35)] : Cond) ∈ lw_tbl)
theorem ww_cwm_126 : ww_cw 126 ∈ lw_tbl := (List.mem_append_right _ (List.mem_append_right _ (List.mem_append_right _ (List.mem_append_left _ (List.mem_of_getElem? (i := 96) rfl)))) : (.codeWith yL_pay cL_pay 5 (some .int) [(0, 9, 12, 19), (0, 9, 16, 21)] : Cond) ∈ lw_tbl)
theorem ww_cwm : ∀ t, t < 127 → ww_cw t ∈ lw_tbl
  | 0, _ => ww_cwm_0
  | 1, _ => ww_cwm_1
  | 2, _ => ww_cwm_2
  | 3, _ => ww_cwm_3
  | 4, _ => ww_cwm_4
  | 5, _ => ww_cwm_5
  | 6, _ => ww_cwm_6
  | 7, _ => ww_cwm_7
  | 8, _ => ww_cwm_8
  | 9, _ => ww_cwm_9
  | 10, _ => ww_cwm_10
  | 11, _ => ww_cwm_11
  | 12, _ => ww_cwm_12
  | 13, _ => ww_cwm_13
  | 14, _ => ww_cwm_14
  | 15, _ => ww_cwm_15
  | 16, _ => ww_cwm_16
  | 17, _ => ww_cwm_17
  | 18, _ => ww_cwm_18
  | 19, _ => ww_cwm_19
  | 20, _ => ww_cwm_20
  | 21, _ => ww_cwm_21
  | 22, _ => ww_cwm_22
  | 23, _ => ww_cwm_23
  | 24, _ => ww_cwm_24
  | 25, _ => ww_cwm_25
  | 26, _ => ww_cwm_26
  | 27, _ => ww_cwm_27
  | 28, _ => ww_cwm_28
  | 29, _ => ww_cwm_29
  | 30, _ => ww_cwm_30
  | 31, _ => ww_cwm_31
  | 32, _ => ww_cwm_32
  | 33, _ => ww_cwm_33
  | 34, _ => ww_cwm_34
  | 35, _ => ww_cwm_35
  | 36, _ => ww_cwm_36
  | 37, _ => ww_cwm_37
  | 38, _ => ww_cwm_38
  | 39, _ => ww_cwm_39
  | 40, _ => ww_cwm_40
  | 41, _ => ww_cwm_41
  | 42, _ => ww_cwm_42
  | 43, _ => ww_cwm_43
  | 44, _ => ww_cwm_44
  | 45, _ => ww_cwm_45
  | 46, _ => ww_cwm_46
  | 47, _ => ww_cwm_47
  | 48, _ => ww_cwm_48
  | 49, _ => ww_cwm_49
  | 50, _ => ww_cwm_50
  | 51, _ => ww_cwm_51
  | 52, _ => ww_cwm_52
  | 53, _ => ww_cwm_53
  | 54, _ => ww_cwm_54
  | 55, _ => ww_cwm_55
  | 56, _ => ww_cwm_56
  | 57, _ => ww_cwm_57
  | 58, _ => ww_cwm_58
  | 59, _ => ww_cwm_59
  | 60, _ => ww_cwm_60
  | 61, _ => ww_cwm_61
  | 62, _ => ww_cwm_62
  | 63, _ => ww_cwm_63
  | 64, _ => ww_cwm_64
  | 65, _ => ww_cwm_65
  | 66, _ => ww_cwm_66
  | 67, _ => ww_cwm_67
  | 68, _ => ww_cwm_68
  | 69, _ => ww_cwm_69
  | 70, _ => ww_cwm_70
  | 71, _ => ww_cwm_71
  | 72, _ => ww_cwm_72
  | 73, _ => ww_cwm_73
  | 74, _ => ww_cwm_74
  | 75, _ => ww_cwm_75
  | 76, _ => ww_cwm_76
  | 77, _ => ww_cwm_77
  | 78, _ => ww_cwm_78
  | 79, _ => ww_cwm_79
  | 80, _ => ww_cwm_80
  | 81, _ => ww_cwm_81
  | 82, _ => ww_cwm_82
  | 83, _ => ww_cwm_83
  | 84, _ => ww_cwm_84
  | 85, _ => ww_cwm_85
  | 86, _ => ww_cwm_86
  | 87, _ => ww_cwm_87
  | 88, _ => ww_cwm_88
  | 89, _ => ww_cwm_89
  | 90, _ => ww_cwm_90
  | 91, _ => ww_cwm_91
  | 92, _ => ww_cwm_92
  | 93, _ => ww_cwm_93
  | 94, _ => ww_cwm_94
  | 95, _ => ww_cwm_95
  | 96, _ => ww_cwm_96
  | 97, _ => ww_cwm_97
  | 98, _ => ww_cwm_98
  | 99, _ => ww_cwm_99
  | 100, _ => ww_cwm_100
  | 101, _ => ww_cwm_101
  | 102, _ => ww_cwm_102
  | 103, _ => ww_cwm_103
  | 104, _ => ww_cwm_104
  | 105, _ => ww_cwm_105
  | 106, _ => ww_cwm_106
  | 107, _ => ww_cwm_107
  | 108, _ => ww_cwm_108
  | 109, _ => ww_cwm_109
  | 110, _ => ww_cwm_110
  | 111, _ => ww_cwm_111
  | 112, _ => ww_cwm_112
  | 113, _ => ww_cwm_113
  | 114, _ => ww_cwm_114
  | 115, _ => ww_cwm_115
  | 116, _ => ww_cwm_116
  | 117, _ => ww_cwm_117
  | 118, _ => ww_cwm_118
  | 119, _ => ww_cwm_119
  | 120, _ => ww_cwm_120
  | 121, _ => ww_cwm_121
  | 122, _ => ww_cwm_122
  | 123, _ => ww_cwm_123
  | 124, _ => ww_cwm_124
  | 125, _ => ww_cwm_125
  | 126, _ => ww_cwm_126
  | t + 127, h => absurd h (by omega)
