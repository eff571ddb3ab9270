theorem inX0 : ∀ x ∈ u_ws RX0 TX0 4, x ∈ lw_good := fun x hx => List.mem_filter.mpr ⟨(show ∀ x ∈ u_ws RX0 TX0 4, x ∈ lw_tbl by decide +kernel) x hx, (show ∀ x ∈ u_ws RX0 TX0 4, goodWord x = true by decide +kernel) x hx⟩
theorem inX1 : ∀ x ∈ u_ws RX1 TX1 3, x ∈ lw_good := fun x hx => List.mem_filter.mpr ⟨(show ∀ x ∈ u_ws RX1 TX1 3, x ∈ lw_tbl by decide +kernel) x hx, (show ∀ x ∈ u_ws RX1 TX1 3, goodWord x = true by decide +kernel) x hx⟩
theorem inX2 : ∀ x ∈ u_ws RX2 TX2 14, x ∈ lw_good := fun x hx => List.mem_filter.mpr ⟨(show ∀ x ∈ u_ws RX2 TX2 14, x ∈ lw_tbl by decide +kernel) x hx, (show ∀ x ∈ u_ws RX2 TX2 14, goodWord x = true by decide +kernel) x hx⟩
theorem inX3 : ∀ x ∈ u_ws RX3 TX3 30, x ∈ lw_good := fun x hx => List.mem_filter.mpr ⟨(show ∀ x ∈ u_ws RX3 TX3 30, x ∈ lw_tbl by decide +kernel) x hx, (show ∀ x ∈ u_ws RX3 TX3 30, goodWord x = true by decide +kernel) x hx⟩
theorem kf_X0_9 : Cond.fieldLink RX0 9 "HourDoors$Door" "kind" "I" ∈ lw_good := gd_in 66 (by decide +kernel) rfl
theorem kf_X2_82 : Cond.fieldLink RX2 82 "HourDoors$Door" "kind" "I" ∈ lw_good := gd_in 67 (by decide +kernel) rfl
theorem kf_X0_15 : Cond.fieldLink RX0 15 "HourDoors$Door" "room" "I" ∈ lw_good := gd_in 68 (by decide +kernel) rfl
theorem kf_X2_85 : Cond.fieldLink RX2 85 "HourDoors$Door" "room" "I" ∈ lw_good := gd_in 69 (by decide +kernel) rfl
theorem kf_X0_18 : Cond.fieldLink RX0 18 "HourDoors$Door" "to" "I" ∈ lw_good := gd_in 70 (by decide +kernel) rfl
theorem kf_X2_88 : Cond.fieldLink RX2 88 "HourDoors$Door" "to" "I" ∈ lw_good := gd_in 71 (by decide +kernel) rfl
theorem kf_X0_21 : Cond.fieldLink RX0 21 "HourDoors$Door" "step" "I" ∈ lw_good := gd_in 72 (by decide +kernel) rfl
theorem kf_X2_91 : Cond.fieldLink RX2 91 "HourDoors$Door" "step" "I" ∈ lw_good := gd_in 73 (by decide +kernel) rfl
theorem kf_X1_9 : Cond.fieldLink RX1 9 "HourDoors$Sheet" "cells" "[I" ∈ lw_good := gd_in 90 (by decide +kernel) rfl
theorem kf_X2_165 : Cond.fieldLink RX2 165 "HourDoors$Sheet" "cells" "[I" ∈ lw_good := gd_in 91 (by decide +kernel) rfl
theorem kf_X1_25 : Cond.fieldLink RX1 25 "HourDoors$Sheet" "lane" "I" ∈ lw_good := gd_in 92 (by decide +kernel) rfl
theorem kf_X2_162 : Cond.fieldLink RX2 162 "HourDoors$Sheet" "lane" "I" ∈ lw_good := gd_in 93 (by decide +kernel) rfl
theorem kf_X1_15 : Cond.fieldLink RX1 15 "HourDoors$Sheet" "size" "I" ∈ lw_good := gd_in 94 (by decide +kernel) rfl
theorem kf_X2_97 : Cond.fieldLink RX2 97 "HourDoors" "rooms" "I" ∈ lw_good := gd_in 103 (by decide +kernel) rfl
theorem kf_X2_76 : Cond.fieldLink RX2 76 "HourDoors" "doorCount" "I" ∈ lw_good := gd_in 104 (by decide +kernel) rfl
theorem kf_X2_13 : Cond.fieldLink RX2 13 "HourDoors" "doors" "[LHourDoors$Door;" ∈ lw_good := gd_in 105 (by decide +kernel) rfl
theorem kf_X2_18 : Cond.fieldLink RX2 18 "HourDoors" "trial" "LHourDoors$Door;" ∈ lw_good := gd_in 106 (by decide +kernel) rfl
theorem kf_X2_136 : Cond.fieldLink RX2 136 "HourDoors" "readingCount" "I" ∈ lw_good := gd_in 107 (by decide +kernel) rfl
theorem kf_X2_22 : Cond.fieldLink RX2 22 "HourDoors" "readDoor" "[I" ∈ lw_good := gd_in 108 (by decide +kernel) rfl
theorem kf_X2_26 : Cond.fieldLink RX2 26 "HourDoors" "readHour" "[I" ∈ lw_good := gd_in 109 (by decide +kernel) rfl
theorem kf_X2_29 : Cond.fieldLink RX2 29 "HourDoors" "readRoom" "[I" ∈ lw_good := gd_in 110 (by decide +kernel) rfl
theorem kf_X2_34 : Cond.fieldLink RX2 34 "HourDoors" "sheets" "[LHourDoors$Sheet;" ∈ lw_good := gd_in 111 (by decide +kernel) rfl
theorem kf_X2_195 : Cond.fieldLink RX2 195 "HourDoors" "left" "I" ∈ lw_good := gd_in 112 (by decide +kernel) rfl
theorem kf_X2_49 : Cond.fieldLink RX2 49 "HourDoors" "latestFault" "I" ∈ lw_good := gd_in 113 (by decide +kernel) rfl
theorem kf_X2_39 : Cond.fieldLink RX2 39 "HourDoors" "hopeful" "[I" ∈ lw_good := gd_in 114 (by decide +kernel) rfl
theorem kf_X2_42 : Cond.fieldLink RX2 42 "HourDoors" "seen" "[J" ∈ lw_good := gd_in 115 (by decide +kernel) rfl
theorem kf_X2_46 : Cond.fieldLink RX2 46 "HourDoors" "seenNext" "[J" ∈ lw_good := gd_in 116 (by decide +kernel) rfl
theorem kf_X2_240 : Cond.fieldLink RX2 240 "HourDoors" "SETS_WITH" "[J" ∈ lw_good := gd_in 280 (by decide +kernel) rfl
theorem kf_X3_67 : Cond.fieldLink RX3 67 "HourDoorsModel" "fault" "I" ∈ lw_good := gd_in 433 (by decide +kernel) rfl
theorem kf_X3_74 : Cond.fieldLink RX3 74 "HourDoorsModel" "rooms" "I" ∈ lw_good := gd_in 434 (by decide +kernel) rfl
theorem kf_X3_81 : Cond.fieldLink RX3 81 "HourDoorsModel" "doors" "I" ∈ lw_good := gd_in 435 (by decide +kernel) rfl
theorem kf_X3_7 : Cond.fieldLink RX3 7 "HourDoorsModel" "kindOf" "[I" ∈ lw_good := gd_in 436 (by decide +kernel) rfl
theorem kf_X3_13 : Cond.fieldLink RX3 13 "HourDoorsModel" "roomOf" "[I" ∈ lw_good := gd_in 437 (by decide +kernel) rfl
theorem kf_X3_16 : Cond.fieldLink RX3 16 "HourDoorsModel" "toOf" "[I" ∈ lw_good := gd_in 438 (by decide +kernel) rfl
theorem kf_X3_19 : Cond.fieldLink RX3 19 "HourDoorsModel" "stepOf" "[I" ∈ lw_good := gd_in 439 (by decide +kernel) rfl
theorem kf_X3_22 : Cond.fieldLink RX3 22 "HourDoorsModel" "gone" "I" ∈ lw_good := gd_in 440 (by decide +kernel) rfl
theorem kf_X3_86 : Cond.fieldLink RX3 86 "HourDoorsModel" "readAt" "I" ∈ lw_good := gd_in 441 (by decide +kernel) rfl
theorem kf_X3_96 : Cond.fieldLink RX3 96 "HourDoorsModel" "readRooms" "I" ∈ lw_good := gd_in 442 (by decide +kernel) rfl
theorem kf_X3_93 : Cond.fieldLink RX3 93 "HourDoorsModel" "readDoors" "I" ∈ lw_good := gd_in 443 (by decide +kernel) rfl
theorem kf_X3_26 : Cond.fieldLink RX3 26 "HourDoorsModel" "readKind" "[I" ∈ lw_good := gd_in 444 (by decide +kernel) rfl
theorem kf_X3_29 : Cond.fieldLink RX3 29 "HourDoorsModel" "readRoom" "[I" ∈ lw_good := gd_in 445 (by decide +kernel) rfl
theorem kf_X3_32 : Cond.fieldLink RX3 32 "HourDoorsModel" "readTo" "[I" ∈ lw_good := gd_in 446 (by decide +kernel) rfl
theorem kf_X3_35 : Cond.fieldLink RX3 35 "HourDoorsModel" "readStep" "[I" ∈ lw_good := gd_in 447 (by decide +kernel) rfl
theorem kf_X3_148 : Cond.fieldLink RX3 148 "HourDoorsModel" "firstWrong" "I" ∈ lw_good := gd_in 448 (by decide +kernel) rfl
theorem kf_X3_151 : Cond.fieldLink RX3 151 "HourDoorsModel" "endsAt" "I" ∈ lw_good := gd_in 449 (by decide +kernel) rfl
theorem kf_X3_154 : Cond.fieldLink RX3 154 "HourDoorsModel" "seen" "I" ∈ lw_good := gd_in 450 (by decide +kernel) rfl
theorem kf_X3_157 : Cond.fieldLink RX3 157 "HourDoorsModel" "goings" "I" ∈ lw_good := gd_in 451 (by decide +kernel) rfl
theorem kf_X3_38 : Cond.fieldLink RX3 38 "HourDoorsModel" "beenIn" "[I" ∈ lw_good := gd_in 452 (by decide +kernel) rfl
theorem kf_X3_41 : Cond.fieldLink RX3 41 "HourDoorsModel" "thenIn" "[I" ∈ lw_good := gd_in 453 (by decide +kernel) rfl
theorem kf_X3_131 : Cond.fieldLink RX3 131 "HourDoorsModel" "readings" "I" ∈ lw_good := gd_in 454 (by decide +kernel) rfl
theorem kf_X3_44 : Cond.fieldLink RX3 44 "HourDoorsModel" "readingOf" "[I" ∈ lw_good := gd_in 455 (by decide +kernel) rfl
theorem kf_X3_47 : Cond.fieldLink RX3 47 "HourDoorsModel" "readingBy" "[I" ∈ lw_good := gd_in 456 (by decide +kernel) rfl
theorem kf_X3_50 : Cond.fieldLink RX3 50 "HourDoorsModel" "readingAt" "[I" ∈ lw_good := gd_in 457 (by decide +kernel) rfl
theorem kf_X3_53 : Cond.fieldLink RX3 53 "HourDoorsModel" "sheetSize" "[I" ∈ lw_good := gd_in 458 (by decide +kernel) rfl
theorem kf_X3_56 : Cond.fieldLink RX3 56 "HourDoorsModel" "sheetLane" "[I" ∈ lw_good := gd_in 459 (by decide +kernel) rfl
theorem kf_X3_59 : Cond.fieldLink RX3 59 "HourDoorsModel" "sheet" "[I" ∈ lw_good := gd_in 460 (by decide +kernel) rfl
theorem kf_X3_62 : Cond.fieldLink RX3 62 "HourDoorsModel" "hands" "[I" ∈ lw_good := gd_in 461 (by decide +kernel) rfl
theorem kf_X3_217 : Cond.fieldLink RX3 217 "HourDoorsModel" "traceNow" "I" ∈ lw_good := gd_in 462 (by decide +kernel) rfl
theorem kl_X2_238 : Cond.constantLong RX2 238 (-1) ∈ lw_good := gd_in 279 (by decide +kernel) rfl
theorem kl_X2_146 : Cond.constantLong RX2 146 (-9223372036854775808) ∈ lw_good := gd_in 347 (by decide +kernel) rfl
theorem kl_X3_208 : Cond.constantLong RX3 208 (3) ∈ lw_good := gd_in 531 (by decide +kernel) rfl
theorem kl_X3_122 : Cond.constantLong RX3 122 (2) ∈ lw_good := gd_in 539 (by decide +kernel) rfl
theorem kl_X3_84 : Cond.constantLong RX3 84 (11) ∈ lw_good := gd_in 582 (by decide +kernel) rfl
theorem kl_X3_143 : Cond.constantLong RX3 143 (5) ∈ lw_good := gd_in 591 (by decide +kernel) rfl
theorem kl_X3_164 : Cond.constantLong RX3 164 (40) ∈ lw_good := gd_in 604 (by decide +kernel) rfl
theorem kl_X3_166 : Cond.constantLong RX3 166 (4) ∈ lw_good := gd_in 605 (by decide +kernel) rfl
theorem kl_X3_178 : Cond.constantLong RX3 178 (-1) ∈ lw_good := gd_in 618 (by decide +kernel) rfl
theorem kl_X3_180 : Cond.constantLong RX3 180 (23) ∈ lw_good := gd_in 619 (by decide +kernel) rfl
theorem kl_X3_200 : Cond.constantLong RX3 200 (24) ∈ lw_good := gd_in 687 (by decide +kernel) rfl
theorem kl_X3_65 : Cond.constantLong RX3 65 (-9223372036854775808) ∈ lw_good := gd_in 691 (by decide +kernel) rfl
theorem kl_X3_202 : Cond.constantLong RX3 202 (12) ∈ lw_good := gd_in 692 (by decide +kernel) rfl
theorem ki_L : Cond.initialized RL ∈ lw_good := gd_in 44 (by decide +kernel) rfl
theorem ki_X2 : Cond.initialized RX2 ∈ lw_good := gd_in 45 (by decide +kernel) rfl
theorem ki_X0 : Cond.initialized RX0 ∈ lw_good := gd_in 46 (by decide +kernel) rfl
theorem ki_X1 : Cond.initialized RX1 ∈ lw_good := gd_in 47 (by decide +kernel) rfl
theorem ki_X3 : Cond.initialized RX3 ∈ lw_good := gd_in 48 (by decide +kernel) rfl
theorem ki_J7 : Cond.initialized RJ7 ∈ lw_good := gd_in 49 (by decide +kernel) rfl
theorem ki_J10 : Cond.initialized "java/lang/System" ∈ lw_good := gd_in 50 (by decide +kernel) rfl
set_option maxRecDepth 20000 in
theorem kd_X2_house : Cond.code yX2_house cX2_house 8 (some .int) ∈ lw_good := gd_in 150 rfl rfl
theorem kc_L_13 : kV RL 13 yX2_house cX2_house 8 (some .int) 4 := ⟨kd_X2_house, gd_in 147 (by decide +kernel) rfl, ki_X2, ⟨by decide +kernel, by decide +kernel, by decide +kernel⟩, gd_in 148 (by decide +kernel) rfl, gd_in 149 (by decide +kernel) rfl⟩
set_option maxRecDepth 20000 in
theorem kd_X2_isSheet : Cond.code yX2_isSheet cX2_isSheet 1 (some .boolean) ∈ lw_good := gd_in 153 rfl rfl
theorem kc_X2_53 : kT RX2 53 yX2_isSheet cX2_isSheet 1 (some .boolean) 1 := ⟨kd_X2_isSheet, gd_in 151 (by decide +kernel) rfl, ki_X2, ⟨by decide +kernel, by decide +kernel, by decide +kernel⟩, gd_in 152 (by decide +kernel) rfl⟩
set_option maxRecDepth 20000 in
theorem kd_X2_isLane : Cond.code yX2_isLane cX2_isLane 1 (some .boolean) ∈ lw_good := gd_in 156 rfl rfl
theorem kc_X2_57 : kT RX2 57 yX2_isLane cX2_isLane 1 (some .boolean) 1 := ⟨kd_X2_isLane, gd_in 154 (by decide +kernel) rfl, ki_X2, ⟨by decide +kernel, by decide +kernel, by decide +kernel⟩, gd_in 155 (by decide +kernel) rfl⟩
set_option maxRecDepth 20000 in
theorem kd_X1_faultOfTaking : Cond.code yX1_faultOfTaking cX1_faultOfTaking 4 (some .int) ∈ lw_good := gd_in 160 rfl rfl
theorem kc_X2_60 : kV RX2 60 yX1_faultOfTaking cX1_faultOfTaking 4 (some .int) 3 := ⟨kd_X1_faultOfTaking, gd_in 157 (by decide +kernel) rfl, ki_X1, ⟨by decide +kernel, by decide +kernel, by decide +kernel⟩, gd_in 158 (by decide +kernel) rfl, gd_in 159 (by decide +kernel) rfl⟩
set_option maxRecDepth 20000 in
theorem kd_X1_hasNothing : Cond.code yX1_hasNothing cX1_hasNothing 1 (some .boolean) ∈ lw_good := gd_in 164 rfl rfl
theorem kc_X1_28 : kV RX1 28 yX1_hasNothing cX1_hasNothing 1 (some .boolean) 0 := ⟨kd_X1_hasNothing, gd_in 161 (by decide +kernel) rfl, ki_X1, ⟨by decide +kernel, by decide +kernel, by decide +kernel⟩, gd_in 162 (by decide +kernel) rfl, gd_in 163 (by decide +kernel) rfl⟩
set_option maxRecDepth 20000 in
theorem kd_X1_hasCells : Cond.code yX1_hasCells cX1_hasCells 3 (some .boolean) ∈ lw_good := gd_in 168 rfl rfl
theorem kc_X1_32 : kV RX1 32 yX1_hasCells cX1_hasCells 3 (some .boolean) 2 := ⟨kd_X1_hasCells, gd_in 165 (by decide +kernel) rfl, ki_X1, ⟨by decide +kernel, by decide +kernel, by decide +kernel⟩, gd_in 166 (by decide +kernel) rfl, gd_in 167 (by decide +kernel) rfl⟩
set_option maxRecDepth 20000 in
theorem kd_X2_faulted : Cond.code yX2_faulted cX2_faulted 2 (some .int) ∈ lw_good := gd_in 172 rfl rfl
theorem kc_X2_64 : kV RX2 64 yX2_faulted cX2_faulted 2 (some .int) 1 := ⟨kd_X2_faulted, gd_in 169 (by decide +kernel) rfl, ki_X2, ⟨by decide +kernel, by decide +kernel, by decide +kernel⟩, gd_in 171 (by decide +kernel) rfl, gd_in 0 (by decide +kernel) rfl⟩
set_option maxRecDepth 20000 in
theorem kd_X2_firstFault : Cond.code yX2_firstFault cX2_firstFault 6 (some .int) ∈ lw_good := gd_in 175 rfl rfl
theorem kc_X2_68 : kT RX2 68 yX2_firstFault cX2_firstFault 6 (some .int) 3 := ⟨kd_X2_firstFault, gd_in 173 (by decide +kernel) rfl, ki_X2, ⟨by decide +kernel, by decide +kernel, by decide +kernel⟩, gd_in 174 (by decide +kernel) rfl⟩
set_option maxRecDepth 20000 in
theorem kd_X2_goesOn : Cond.code yX2_goesOn cX2_goesOn 3 (some .boolean) ∈ lw_good := gd_in 178 rfl rfl
theorem kc_X2_198 : kT RX2 198 yX2_goesOn cX2_goesOn 3 (some .boolean) 3 := ⟨kd_X2_goesOn, gd_in 176 (by decide +kernel) rfl, ki_X2, ⟨by decide +kernel, by decide +kernel, by decide +kernel⟩, gd_in 177 (by decide +kernel) rfl⟩
set_option maxRecDepth 20000 in
theorem kd_X2_build : Cond.code yX2_build cX2_build 6 none ∈ lw_good := gd_in 182 rfl rfl
theorem kc_X2_72 : kV RX2 72 yX2_build cX2_build 6 none 3 := ⟨kd_X2_build, gd_in 179 (by decide +kernel) rfl, ki_X2, ⟨by decide +kernel, by decide +kernel, by decide +kernel⟩, gd_in 181 (by decide +kernel) rfl, gd_in 1 (by decide +kernel) rfl⟩
set_option maxRecDepth 20000 in
theorem kd_X2_kindOfLetter : Cond.code yX2_kindOfLetter cX2_kindOfLetter 1 (some .int) ∈ lw_good := gd_in 185 rfl rfl
theorem kc_X2_202 : kT RX2 202 yX2_kindOfLetter cX2_kindOfLetter 1 (some .int) 1 := ⟨kd_X2_kindOfLetter, gd_in 183 (by decide +kernel) rfl, ki_X2, ⟨by decide +kernel, by decide +kernel, by decide +kernel⟩, gd_in 184 (by decide +kernel) rfl⟩
set_option maxRecDepth 20000 in
theorem kd_X2_ofDoor : Cond.code yX2_ofDoor cX2_ofDoor 3 (some .int) ∈ lw_good := gd_in 189 rfl rfl
theorem kc_L_18 : kV RL 18 yX2_ofDoor cX2_ofDoor 3 (some .int) 2 := ⟨kd_X2_ofDoor, gd_in 186 (by decide +kernel) rfl, ki_X2, ⟨by decide +kernel, by decide +kernel, by decide +kernel⟩, gd_in 187 (by decide +kernel) rfl, gd_in 188 (by decide +kernel) rfl⟩
set_option maxRecDepth 20000 in
theorem kd_X2_isDoor : Cond.code yX2_isDoor cX2_isDoor 2 (some .boolean) ∈ lw_good := gd_in 193 rfl rfl
theorem kc_X2_79 : kV RX2 79 yX2_isDoor cX2_isDoor 2 (some .boolean) 1 := ⟨kd_X2_isDoor, gd_in 190 (by decide +kernel) rfl, ki_X2, ⟨by decide +kernel, by decide +kernel, by decide +kernel⟩, gd_in 192 (by decide +kernel) rfl, gd_in 2 (by decide +kernel) rfl⟩
set_option maxRecDepth 20000 in
theorem kd_X2_leads : Cond.code yX2_leads cX2_leads 3 (some .int) ∈ lw_good := gd_in 197 rfl rfl
theorem kc_L_23 : kV RL 23 yX2_leads cX2_leads 3 (some .int) 2 := ⟨kd_X2_leads, gd_in 194 (by decide +kernel) rfl, ki_X2, ⟨by decide +kernel, by decide +kernel, by decide +kernel⟩, gd_in 195 (by decide +kernel) rfl, gd_in 196 (by decide +kernel) rfl⟩
set_option maxRecDepth 20000 in
theorem kd_X2_isHour : Cond.code yX2_isHour cX2_isHour 1 (some .boolean) ∈ lw_good := gd_in 200 rfl rfl
theorem kc_X2_94 : kT RX2 94 yX2_isHour cX2_isHour 1 (some .boolean) 1 := ⟨kd_X2_isHour, gd_in 198 (by decide +kernel) rfl, ki_X2, ⟨by decide +kernel, by decide +kernel, by decide +kernel⟩, gd_in 199 (by decide +kernel) rfl⟩
set_option maxRecDepth 20000 in
theorem kd_X0_leadsTo : Cond.code yX0_leadsTo cX0_leadsTo 4 (some .int) ∈ lw_good := gd_in 204 rfl rfl
theorem kc_X2_100 : kV RX2 100 yX0_leadsTo cX0_leadsTo 4 (some .int) 2 := ⟨kd_X0_leadsTo, gd_in 201 (by decide +kernel) rfl, ki_X0, ⟨by decide +kernel, by decide +kernel, by decide +kernel⟩, gd_in 202 (by decide +kernel) rfl, gd_in 203 (by decide +kernel) rfl⟩
set_option maxRecDepth 20000 in
theorem kd_X2_step : Cond.code yX2_step cX2_step 4 (some .int) ∈ lw_good := gd_in 208 rfl rfl
theorem kc_L_27 : kV RL 27 yX2_step cX2_step 4 (some .int) 2 := ⟨kd_X2_step, gd_in 205 (by decide +kernel) rfl, ki_X2, ⟨by decide +kernel, by decide +kernel, by decide +kernel⟩, gd_in 206 (by decide +kernel) rfl, gd_in 207 (by decide +kernel) rfl⟩
set_option maxRecDepth 20000 in
theorem kd_X2_turn : Cond.code yX2_turn cX2_turn 4 (some .int) ∈ lw_good := gd_in 212 rfl rfl
theorem kc_L_31 : kV RL 31 yX2_turn cX2_turn 4 (some .int) 2 := ⟨kd_X2_turn, gd_in 209 (by decide +kernel) rfl, ki_X2, ⟨by decide +kernel, by decide +kernel, by decide +kernel⟩, gd_in 210 (by decide +kernel) rfl, gd_in 211 (by decide +kernel) rfl⟩
set_option maxRecDepth 20000 in
theorem kd_X2_isRoom : Cond.code yX2_isRoom cX2_isRoom 2 (some .boolean) ∈ lw_good := gd_in 216 rfl rfl
theorem kc_X2_104 : kV RX2 104 yX2_isRoom cX2_isRoom 2 (some .boolean) 1 := ⟨kd_X2_isRoom, gd_in 213 (by decide +kernel) rfl, ki_X2, ⟨by decide +kernel, by decide +kernel, by decide +kernel⟩, gd_in 215 (by decide +kernel) rfl, gd_in 3 (by decide +kernel) rfl⟩
set_option maxRecDepth 20000 in
theorem kd_X2_walk : Cond.code yX2_walk cX2_walk 10 (some .int) ∈ lw_good := gd_in 220 rfl rfl
theorem kc_L_35 : kV RL 35 yX2_walk cX2_walk 10 (some .int) 7 := ⟨kd_X2_walk, gd_in 217 (by decide +kernel) rfl, ki_X2, ⟨by decide +kernel, by decide +kernel, by decide +kernel⟩, gd_in 218 (by decide +kernel) rfl, gd_in 219 (by decide +kernel) rfl⟩
set_option maxRecDepth 20000 in
theorem kd_X2_areActs : Cond.code yX2_areActs cX2_areActs 6 (some .boolean) ∈ lw_good := gd_in 224 rfl rfl
theorem kc_X2_107 : kV RX2 107 yX2_areActs cX2_areActs 6 (some .boolean) 3 := ⟨kd_X2_areActs, gd_in 221 (by decide +kernel) rfl, ki_X2, ⟨by decide +kernel, by decide +kernel, by decide +kernel⟩, gd_in 223 (by decide +kernel) rfl, gd_in 4 (by decide +kernel) rfl⟩
set_option maxRecDepth 20000 in
theorem kd_X2_walked : Cond.code yX2_walked cX2_walked 13 (some .int) ∈ lw_good := gd_in 228 rfl rfl
theorem kc_X2_111 : kV RX2 111 yX2_walked cX2_walked 13 (some .int) 6 := ⟨kd_X2_walked, gd_in 225 (by decide +kernel) rfl, ki_X2, ⟨by decide +kernel, by decide +kernel, by decide +kernel⟩, gd_in 227 (by decide +kernel) rfl, gd_in 5 (by decide +kernel) rfl⟩
set_option maxRecDepth 20000 in
theorem kd_X2_roomAfter : Cond.code yX2_roomAfter cX2_roomAfter 4 (some .int) ∈ lw_good := gd_in 232 rfl rfl
theorem kc_X2_205 : kV RX2 205 yX2_roomAfter cX2_roomAfter 4 (some .int) 3 := ⟨kd_X2_roomAfter, gd_in 229 (by decide +kernel) rfl, ki_X2, ⟨by decide +kernel, by decide +kernel, by decide +kernel⟩, gd_in 231 (by decide +kernel) rfl, gd_in 6 (by decide +kernel) rfl⟩
set_option maxRecDepth 20000 in
theorem kd_X2_soonest : Cond.code yX2_soonest cX2_soonest 6 (some .int) ∈ lw_good := gd_in 236 rfl rfl
theorem kc_L_40 : kV RL 40 yX2_soonest cX2_soonest 6 (some .int) 4 := ⟨kd_X2_soonest, gd_in 233 (by decide +kernel) rfl, ki_X2, ⟨by decide +kernel, by decide +kernel, by decide +kernel⟩, gd_in 234 (by decide +kernel) rfl, gd_in 235 (by decide +kernel) rfl⟩
set_option maxRecDepth 20000 in
theorem kd_X2_fewestHours : Cond.code yX2_fewestHours cX2_fewestHours 7 (some .int) ∈ lw_good := gd_in 240 rfl rfl
theorem kc_X2_115 : kV RX2 115 yX2_fewestHours cX2_fewestHours 7 (some .int) 4 := ⟨kd_X2_fewestHours, gd_in 237 (by decide +kernel) rfl, ki_X2, ⟨by decide +kernel, by decide +kernel, by decide +kernel⟩, gd_in 239 (by decide +kernel) rfl, gd_in 7 (by decide +kernel) rfl⟩
set_option maxRecDepth 20000 in
theorem kd_X2_has : Cond.code yX2_has cX2_has 2 (some .boolean) ∈ lw_good := gd_in 243 rfl rfl
theorem kc_X2_208 : kT RX2 208 yX2_has cX2_has 2 (some .boolean) 2 := ⟨kd_X2_has, gd_in 241 (by decide +kernel) rfl, ki_X2, ⟨by decide +kernel, by decide +kernel, by decide +kernel⟩, gd_in 242 (by decide +kernel) rfl⟩
set_option maxRecDepth 20000 in
theorem kd_X2_anHourOn : Cond.code yX2_anHourOn cX2_anHourOn 7 (some .int) ∈ lw_good := gd_in 247 rfl rfl
theorem kc_X2_130 : kV RX2 130 yX2_anHourOn cX2_anHourOn 7 (some .int) 3 := ⟨kd_X2_anHourOn, gd_in 244 (by decide +kernel) rfl, ki_X2, ⟨by decide +kernel, by decide +kernel, by decide +kernel⟩, gd_in 246 (by decide +kernel) rfl, gd_in 8 (by decide +kernel) rfl⟩
set_option maxRecDepth 20000 in
theorem kd_X2_actOfSoonest : Cond.code yX2_actOfSoonest cX2_actOfSoonest 10 (some .int) ∈ lw_good := gd_in 251 rfl rfl
theorem kc_X2_119 : kV RX2 119 yX2_actOfSoonest cX2_actOfSoonest 10 (some .int) 5 := ⟨kd_X2_actOfSoonest, gd_in 248 (by decide +kernel) rfl, ki_X2, ⟨by decide +kernel, by decide +kernel, by decide +kernel⟩, gd_in 250 (by decide +kernel) rfl, gd_in 9 (by decide +kernel) rfl⟩
set_option maxRecDepth 20000 in
theorem kd_X2_fillHopeful : Cond.code yX2_fillHopeful cX2_fillHopeful 5 none ∈ lw_good := gd_in 255 rfl rfl
theorem kc_X2_211 : kV RX2 211 yX2_fillHopeful cX2_fillHopeful 5 none 3 := ⟨kd_X2_fillHopeful, gd_in 252 (by decide +kernel) rfl, ki_X2, ⟨by decide +kernel, by decide +kernel, by decide +kernel⟩, gd_in 254 (by decide +kernel) rfl, gd_in 10 (by decide +kernel) rfl⟩
set_option maxRecDepth 20000 in
theorem kd_X2_anHourAhead : Cond.code yX2_anHourAhead cX2_anHourAhead 6 (some .int) ∈ lw_good := gd_in 259 rfl rfl
theorem kc_X2_218 : kV RX2 218 yX2_anHourAhead cX2_anHourAhead 6 (some .int) 2 := ⟨kd_X2_anHourAhead, gd_in 256 (by decide +kernel) rfl, ki_X2, ⟨by decide +kernel, by decide +kernel, by decide +kernel⟩, gd_in 258 (by decide +kernel) rfl, gd_in 11 (by decide +kernel) rfl⟩
set_option maxRecDepth 20000 in
theorem kd_X2_firstHopefulAct : Cond.code yX2_firstHopefulAct cX2_firstHopefulAct 6 (some .int) ∈ lw_good := gd_in 263 rfl rfl
theorem kc_X2_215 : kV RX2 215 yX2_firstHopefulAct cX2_firstHopefulAct 6 (some .int) 3 := ⟨kd_X2_firstHopefulAct, gd_in 260 (by decide +kernel) rfl, ki_X2, ⟨by decide +kernel, by decide +kernel, by decide +kernel⟩, gd_in 262 (by decide +kernel) rfl, gd_in 12 (by decide +kernel) rfl⟩
set_option maxRecDepth 20000 in
theorem kd_X2_errands : Cond.code yX2_errands cX2_errands 4 (some .int) ∈ lw_good := gd_in 267 rfl rfl
theorem kc_L_44 : kV RL 44 yX2_errands cX2_errands 4 (some .int) 3 := ⟨kd_X2_errands, gd_in 264 (by decide +kernel) rfl, ki_X2, ⟨by decide +kernel, by decide +kernel, by decide +kernel⟩, gd_in 265 (by decide +kernel) rfl, gd_in 266 (by decide +kernel) rfl⟩
set_option maxRecDepth 20000 in
theorem kd_X2_allRooms : Cond.code yX2_allRooms cX2_allRooms 1 (some .int) ∈ lw_good := gd_in 271 rfl rfl
theorem kc_X2_123 : kV RX2 123 yX2_allRooms cX2_allRooms 1 (some .int) 0 := ⟨kd_X2_allRooms, gd_in 268 (by decide +kernel) rfl, ki_X2, ⟨by decide +kernel, by decide +kernel, by decide +kernel⟩, gd_in 270 (by decide +kernel) rfl, gd_in 13 (by decide +kernel) rfl⟩
set_option maxRecDepth 20000 in
theorem kd_X2_errandHours : Cond.code yX2_errandHours cX2_errandHours 7 (some .int) ∈ lw_good := gd_in 275 rfl rfl
theorem kc_X2_127 : kV RX2 127 yX2_errandHours cX2_errandHours 7 (some .int) 3 := ⟨kd_X2_errandHours, gd_in 272 (by decide +kernel) rfl, ki_X2, ⟨by decide +kernel, by decide +kernel, by decide +kernel⟩, gd_in 274 (by decide +kernel) rfl, gd_in 14 (by decide +kernel) rfl⟩
set_option maxRecDepth 20000 in
theorem kd_X2_setsWithAll : Cond.code yX2_setsWithAll cX2_setsWithAll 4 (some .long) ∈ lw_good := gd_in 278 rfl rfl
theorem kc_X2_221 : kT RX2 221 yX2_setsWithAll cX2_setsWithAll 4 (some .long) 1 := ⟨kd_X2_setsWithAll, gd_in 276 (by decide +kernel) rfl, ki_X2, ⟨by decide +kernel, by decide +kernel, by decide +kernel⟩, gd_in 277 (by decide +kernel) rfl⟩
set_option maxRecDepth 20000 in
theorem kd_J7_fill_d0a16 : Cond.code yJ7_fill_d0a16 cJ7_fill_d0a16 5 none ∈ lw_good := gd_in 284 rfl rfl
theorem kc_X2_225 : kT RX2 225 yJ7_fill_d0a16 cJ7_fill_d0a16 5 none 2 := ⟨kd_J7_fill_d0a16, gd_in 282 (by decide +kernel) rfl, ki_J7, ⟨by decide +kernel, by decide +kernel, by decide +kernel⟩, gd_in 283 (by decide +kernel) rfl⟩
set_option maxRecDepth 20000 in
theorem kd_X2_anySeen : Cond.code yX2_anySeen cX2_anySeen 4 (some .boolean) ∈ lw_good := gd_in 288 rfl rfl
theorem kc_X2_231 : kV RX2 231 yX2_anySeen cX2_anySeen 4 (some .boolean) 1 := ⟨kd_X2_anySeen, gd_in 285 (by decide +kernel) rfl, ki_X2, ⟨by decide +kernel, by decide +kernel, by decide +kernel⟩, gd_in 287 (by decide +kernel) rfl, gd_in 15 (by decide +kernel) rfl⟩
set_option maxRecDepth 20000 in
theorem kd_X2_seeAnHourOn : Cond.code yX2_seeAnHourOn cX2_seeAnHourOn 4 none ∈ lw_good := gd_in 292 rfl rfl
theorem kc_X2_235 : kV RX2 235 yX2_seeAnHourOn cX2_seeAnHourOn 4 none 1 := ⟨kd_X2_seeAnHourOn, gd_in 289 (by decide +kernel) rfl, ki_X2, ⟨by decide +kernel, by decide +kernel, by decide +kernel⟩, gd_in 291 (by decide +kernel) rfl, gd_in 16 (by decide +kernel) rfl⟩
theorem kacp_X2_175 : Cond.methodLink RX2 175 arraycopyName ∈ lw_good := gd_in 293 (by decide +kernel) rfl
set_option maxRecDepth 20000 in
theorem kd_X2_eachWith : Cond.code yX2_eachWith cX2_eachWith 7 (some .long) ∈ lw_good := gd_in 298 rfl rfl
theorem kc_X2_243 : kT RX2 243 yX2_eachWith cX2_eachWith 7 (some .long) 2 := ⟨kd_X2_eachWith, gd_in 296 (by decide +kernel) rfl, ki_X2, ⟨by decide +kernel, by decide +kernel, by decide +kernel⟩, gd_in 297 (by decide +kernel) rfl⟩
set_option maxRecDepth 20000 in
theorem kd_X2_meet : Cond.code yX2_meet cX2_meet 8 (some .int) ∈ lw_good := gd_in 302 rfl rfl
theorem kc_L_49 : kV RL 49 yX2_meet cX2_meet 8 (some .int) 3 := ⟨kd_X2_meet, gd_in 299 (by decide +kernel) rfl, ki_X2, ⟨by decide +kernel, by decide +kernel, by decide +kernel⟩, gd_in 300 (by decide +kernel) rfl, gd_in 301 (by decide +kernel) rfl⟩
set_option maxRecDepth 20000 in
theorem kd_X2_cut : Cond.code yX2_cut cX2_cut 5 (some .int) ∈ lw_good := gd_in 306 rfl rfl
theorem kc_L_53 : kV RL 53 yX2_cut cX2_cut 5 (some .int) 3 := ⟨kd_X2_cut, gd_in 303 (by decide +kernel) rfl, ki_X2, ⟨by decide +kernel, by decide +kernel, by decide +kernel⟩, gd_in 304 (by decide +kernel) rfl, gd_in 305 (by decide +kernel) rfl⟩
set_option maxRecDepth 20000 in
theorem kd_X2_reach : Cond.code yX2_reach cX2_reach 4 (some .int) ∈ lw_good := gd_in 310 rfl rfl
theorem kc_L_57 : kV RL 57 yX2_reach cX2_reach 4 (some .int) 1 := ⟨kd_X2_reach, gd_in 307 (by decide +kernel) rfl, ki_X2, ⟨by decide +kernel, by decide +kernel, by decide +kernel⟩, gd_in 308 (by decide +kernel) rfl, gd_in 309 (by decide +kernel) rfl⟩
set_option maxRecDepth 20000 in
theorem kd_X2_roomsInTime : Cond.code yX2_roomsInTime cX2_roomsInTime 5 (some .int) ∈ lw_good := gd_in 314 rfl rfl
theorem kc_X2_133 : kV RX2 133 yX2_roomsInTime cX2_roomsInTime 5 (some .int) 2 := ⟨kd_X2_roomsInTime, gd_in 311 (by decide +kernel) rfl, ki_X2, ⟨by decide +kernel, by decide +kernel, by decide +kernel⟩, gd_in 313 (by decide +kernel) rfl, gd_in 17 (by decide +kernel) rfl⟩
set_option maxRecDepth 20000 in
theorem kd_X2_reading : Cond.code yX2_reading cX2_reading 4 (some .int) ∈ lw_good := gd_in 318 rfl rfl
theorem kc_L_62 : kV RL 62 yX2_reading cX2_reading 4 (some .int) 3 := ⟨kd_X2_reading, gd_in 315 (by decide +kernel) rfl, ki_X2, ⟨by decide +kernel, by decide +kernel, by decide +kernel⟩, gd_in 316 (by decide +kernel) rfl, gd_in 317 (by decide +kernel) rfl⟩
set_option maxRecDepth 20000 in
theorem kd_X2_back : Cond.code yX2_back cX2_back 2 (some .int) ∈ lw_good := gd_in 322 rfl rfl
theorem kc_L_66 : kV RL 66 yX2_back cX2_back 2 (some .int) 1 := ⟨kd_X2_back, gd_in 319 (by decide +kernel) rfl, ki_X2, ⟨by decide +kernel, by decide +kernel, by decide +kernel⟩, gd_in 320 (by decide +kernel) rfl, gd_in 321 (by decide +kernel) rfl⟩
set_option maxRecDepth 20000 in
theorem kd_X2_steps : Cond.code yX2_steps cX2_steps 4 (some .int) ∈ lw_good := gd_in 326 rfl rfl
theorem kc_L_70 : kV RL 70 yX2_steps cX2_steps 4 (some .int) 1 := ⟨kd_X2_steps, gd_in 323 (by decide +kernel) rfl, ki_X2, ⟨by decide +kernel, by decide +kernel, by decide +kernel⟩, gd_in 324 (by decide +kernel) rfl, gd_in 325 (by decide +kernel) rfl⟩
set_option maxRecDepth 20000 in
theorem kd_X0_becomeLike : Cond.code yX0_becomeLike cX0_becomeLike 2 none ∈ lw_good := gd_in 330 rfl rfl
theorem kc_X2_139 : kV RX2 139 yX0_becomeLike cX0_becomeLike 2 none 1 := ⟨kd_X0_becomeLike, gd_in 327 (by decide +kernel) rfl, ki_X0, ⟨by decide +kernel, by decide +kernel, by decide +kernel⟩, gd_in 328 (by decide +kernel) rfl, gd_in 329 (by decide +kernel) rfl⟩
set_option maxRecDepth 20000 in
theorem kd_X2_readingsHold : Cond.code yX2_readingsHold cX2_readingsHold 4 (some .boolean) ∈ lw_good := gd_in 334 rfl rfl
theorem kc_X2_143 : kV RX2 143 yX2_readingsHold cX2_readingsHold 4 (some .boolean) 1 := ⟨kd_X2_readingsHold, gd_in 331 (by decide +kernel) rfl, ki_X2, ⟨by decide +kernel, by decide +kernel, by decide +kernel⟩, gd_in 333 (by decide +kernel) rfl, gd_in 18 (by decide +kernel) rfl⟩
set_option maxRecDepth 20000 in
theorem kd_X2_targets : Cond.code yX2_targets cX2_targets 4 (some .int) ∈ lw_good := gd_in 338 rfl rfl
theorem kc_L_74 : kV RL 74 yX2_targets cX2_targets 4 (some .int) 1 := ⟨kd_X2_targets, gd_in 335 (by decide +kernel) rfl, ki_X2, ⟨by decide +kernel, by decide +kernel, by decide +kernel⟩, gd_in 336 (by decide +kernel) rfl, gd_in 337 (by decide +kernel) rfl⟩
set_option maxRecDepth 20000 in
theorem kd_X2_kinds : Cond.code yX2_kinds cX2_kinds 4 (some .int) ∈ lw_good := gd_in 342 rfl rfl
theorem kc_L_78 : kV RL 78 yX2_kinds cX2_kinds 4 (some .int) 1 := ⟨kd_X2_kinds, gd_in 339 (by decide +kernel) rfl, ki_X2, ⟨by decide +kernel, by decide +kernel, by decide +kernel⟩, gd_in 340 (by decide +kernel) rfl, gd_in 341 (by decide +kernel) rfl⟩
set_option maxRecDepth 20000 in
theorem kd_X2_odds : Cond.code yX2_odds cX2_odds 8 (some .long) ∈ lw_good := gd_in 346 rfl rfl
theorem kc_L_82 : kV RL 82 yX2_odds cX2_odds 8 (some .long) 4 := ⟨kd_X2_odds, gd_in 343 (by decide +kernel) rfl, ki_X2, ⟨by decide +kernel, by decide +kernel, by decide +kernel⟩, gd_in 344 (by decide +kernel) rfl, gd_in 345 (by decide +kernel) rfl⟩
set_option maxRecDepth 20000 in
theorem kd_X2_commonWithHours : Cond.code yX2_commonWithHours cX2_commonWithHours 2 (some .int) ∈ lw_good := gd_in 350 rfl rfl
theorem kc_X2_148 : kT RX2 148 yX2_commonWithHours cX2_commonWithHours 2 (some .int) 1 := ⟨kd_X2_commonWithHours, gd_in 348 (by decide +kernel) rfl, ki_X2, ⟨by decide +kernel, by decide +kernel, by decide +kernel⟩, gd_in 349 (by decide +kernel) rfl⟩
set_option maxRecDepth 20000 in
theorem kd_X2_sheet : Cond.code yX2_sheet cX2_sheet 4 (some .int) ∈ lw_good := gd_in 354 rfl rfl
theorem kc_L_87 : kV RL 87 yX2_sheet cX2_sheet 4 (some .int) 3 := ⟨kd_X2_sheet, gd_in 351 (by decide +kernel) rfl, ki_X2, ⟨by decide +kernel, by decide +kernel, by decide +kernel⟩, gd_in 352 (by decide +kernel) rfl, gd_in 353 (by decide +kernel) rfl⟩
set_option maxRecDepth 20000 in
theorem kd_X1_begin : Cond.code yX1_begin cX1_begin 3 none ∈ lw_good := gd_in 358 rfl rfl
theorem kc_X2_151 : kV RX2 151 yX1_begin cX1_begin 3 none 2 := ⟨kd_X1_begin, gd_in 355 (by decide +kernel) rfl, ki_X1, ⟨by decide +kernel, by decide +kernel, by decide +kernel⟩, gd_in 356 (by decide +kernel) rfl, gd_in 357 (by decide +kernel) rfl⟩
set_option maxRecDepth 20000 in
theorem kd_J7_fill_53178 : Cond.code yJ7_fill_53178 cJ7_fill_53178 4 none ∈ lw_good := gd_in 361 rfl rfl
theorem kc_X1_19 : kT RX1 19 yJ7_fill_53178 cJ7_fill_53178 4 none 2 := ⟨kd_J7_fill_53178, gd_in 359 (by decide +kernel) rfl, ki_J7, ⟨by decide +kernel, by decide +kernel, by decide +kernel⟩, gd_in 360 (by decide +kernel) rfl⟩
set_option maxRecDepth 20000 in
theorem kd_X2_lose : Cond.code yX2_lose cX2_lose 2 (some .int) ∈ lw_good := gd_in 365 rfl rfl
theorem kc_L_91 : kV RL 91 yX2_lose cX2_lose 2 (some .int) 1 := ⟨kd_X2_lose, gd_in 362 (by decide +kernel) rfl, ki_X2, ⟨by decide +kernel, by decide +kernel, by decide +kernel⟩, gd_in 363 (by decide +kernel) rfl, gd_in 364 (by decide +kernel) rfl⟩
theorem kc_X2_155 : kV RX2 155 yX1_hasNothing cX1_hasNothing 1 (some .boolean) 0 := ⟨kd_X1_hasNothing, gd_in 366 (by decide +kernel) rfl, ki_X1, ⟨by decide +kernel, by decide +kernel, by decide +kernel⟩, gd_in 162 (by decide +kernel) rfl, gd_in 163 (by decide +kernel) rfl⟩
set_option maxRecDepth 20000 in
theorem kd_X1_empty : Cond.code yX1_empty cX1_empty 1 none ∈ lw_good := gd_in 370 rfl rfl
theorem kc_X2_159 : kV RX2 159 yX1_empty cX1_empty 1 none 0 := ⟨kd_X1_empty, gd_in 367 (by decide +kernel) rfl, ki_X1, ⟨by decide +kernel, by decide +kernel, by decide +kernel⟩, gd_in 368 (by decide +kernel) rfl, gd_in 369 (by decide +kernel) rfl⟩
set_option maxRecDepth 20000 in
theorem kd_X2_put : Cond.code yX2_put cX2_put 6 (some .int) ∈ lw_good := gd_in 374 rfl rfl
theorem kc_L_95 : kV RL 95 yX2_put cX2_put 6 (some .int) 3 := ⟨kd_X2_put, gd_in 371 (by decide +kernel) rfl, ki_X2, ⟨by decide +kernel, by decide +kernel, by decide +kernel⟩, gd_in 372 (by decide +kernel) rfl, gd_in 373 (by decide +kernel) rfl⟩
set_option maxRecDepth 20000 in
theorem kd_X2_cutToLane : Cond.code yX2_cutToLane cX2_cutToLane 2 (some .int) ∈ lw_good := gd_in 377 rfl rfl
theorem kc_X2_168 : kT RX2 168 yX2_cutToLane cX2_cutToLane 2 (some .int) 2 := ⟨kd_X2_cutToLane, gd_in 375 (by decide +kernel) rfl, ki_X2, ⟨by decide +kernel, by decide +kernel, by decide +kernel⟩, gd_in 376 (by decide +kernel) rfl⟩
set_option maxRecDepth 20000 in
theorem kd_X2_cell : Cond.code yX2_cell cX2_cell 4 (some .long) ∈ lw_good := gd_in 381 rfl rfl
theorem kc_L_99 : kV RL 99 yX2_cell cX2_cell 4 (some .long) 3 := ⟨kd_X2_cell, gd_in 378 (by decide +kernel) rfl, ki_X2, ⟨by decide +kernel, by decide +kernel, by decide +kernel⟩, gd_in 379 (by decide +kernel) rfl, gd_in 380 (by decide +kernel) rfl⟩
set_option maxRecDepth 20000 in
theorem kd_X2_copy : Cond.code yX2_copy cX2_copy 8 (some .int) ∈ lw_good := gd_in 385 rfl rfl
theorem kc_L_104 : kV RL 104 yX2_copy cX2_copy 8 (some .int) 5 := ⟨kd_X2_copy, gd_in 382 (by decide +kernel) rfl, ki_X2, ⟨by decide +kernel, by decide +kernel, by decide +kernel⟩, gd_in 383 (by decide +kernel) rfl, gd_in 384 (by decide +kernel) rfl⟩
theorem kc_X2_171 : kV RX2 171 yX1_hasCells cX1_hasCells 3 (some .boolean) 2 := ⟨kd_X1_hasCells, gd_in 386 (by decide +kernel) rfl, ki_X1, ⟨by decide +kernel, by decide +kernel, by decide +kernel⟩, gd_in 166 (by decide +kernel) rfl, gd_in 167 (by decide +kernel) rfl⟩
set_option maxRecDepth 20000 in
theorem kd_X2_tell : Cond.code yX2_tell cX2_tell 2 (some .int) ∈ lw_good := gd_in 390 rfl rfl
theorem kc_L_109 : kV RL 109 yX2_tell cX2_tell 2 (some .int) 1 := ⟨kd_X2_tell, gd_in 387 (by decide +kernel) rfl, ki_X2, ⟨by decide +kernel, by decide +kernel, by decide +kernel⟩, gd_in 388 (by decide +kernel) rfl, gd_in 389 (by decide +kernel) rfl⟩
set_option maxRecDepth 20000 in
theorem kd_X2_lateTelling : Cond.code yX2_lateTelling cX2_lateTelling 2 (some .int) ∈ lw_good := gd_in 394 rfl rfl
theorem kc_X2_181 : kV RX2 181 yX2_lateTelling cX2_lateTelling 2 (some .int) 1 := ⟨kd_X2_lateTelling, gd_in 391 (by decide +kernel) rfl, ki_X2, ⟨by decide +kernel, by decide +kernel, by decide +kernel⟩, gd_in 393 (by decide +kernel) rfl, gd_in 19 (by decide +kernel) rfl⟩
set_option maxRecDepth 20000 in
theorem kd_X2_leaveNumber : Cond.code yX2_leaveNumber cX2_leaveNumber 2 none ∈ lw_good := gd_in 398 rfl rfl
theorem kc_X2_191 : kV RX2 191 yX2_leaveNumber cX2_leaveNumber 2 none 1 := ⟨kd_X2_leaveNumber, gd_in 395 (by decide +kernel) rfl, ki_X2, ⟨by decide +kernel, by decide +kernel, by decide +kernel⟩, gd_in 397 (by decide +kernel) rfl, gd_in 20 (by decide +kernel) rfl⟩
set_option maxRecDepth 20000 in
theorem kd_X2_plainTelling : Cond.code yX2_plainTelling cX2_plainTelling 2 (some .int) ∈ lw_good := gd_in 402 rfl rfl
theorem kc_X2_188 : kV RX2 188 yX2_plainTelling cX2_plainTelling 2 (some .int) 1 := ⟨kd_X2_plainTelling, gd_in 399 (by decide +kernel) rfl, ki_X2, ⟨by decide +kernel, by decide +kernel, by decide +kernel⟩, gd_in 401 (by decide +kernel) rfl, gd_in 21 (by decide +kernel) rfl⟩
set_option maxRecDepth 20000 in
theorem kd_X2_cupboardTelling : Cond.code yX2_cupboardTelling cX2_cupboardTelling 3 (some .int) ∈ lw_good := gd_in 406 rfl rfl
theorem kc_X2_185 : kV RX2 185 yX2_cupboardTelling cX2_cupboardTelling 3 (some .int) 1 := ⟨kd_X2_cupboardTelling, gd_in 403 (by decide +kernel) rfl, ki_X2, ⟨by decide +kernel, by decide +kernel, by decide +kernel⟩, gd_in 405 (by decide +kernel) rfl, gd_in 22 (by decide +kernel) rfl⟩
set_option maxRecDepth 20000 in
theorem kd_X2_knock : Cond.code yX2_knock cX2_knock 3 (some .int) ∈ lw_good := gd_in 410 rfl rfl
theorem kc_L_113 : kV RL 113 yX2_knock cX2_knock 3 (some .int) 1 := ⟨kd_X2_knock, gd_in 407 (by decide +kernel) rfl, ki_X2, ⟨by decide +kernel, by decide +kernel, by decide +kernel⟩, gd_in 408 (by decide +kernel) rfl, gd_in 409 (by decide +kernel) rfl⟩
set_option maxRecDepth 20000 in
theorem kd_X2_as : Cond.code yX2_as cX2_as 3 (some .int) ∈ lw_good := gd_in 414 rfl rfl
theorem kc_L_117 : kV RL 117 yX2_as cX2_as 3 (some .int) 2 := ⟨kd_X2_as, gd_in 411 (by decide +kernel) rfl, ki_X2, ⟨by decide +kernel, by decide +kernel, by decide +kernel⟩, gd_in 412 (by decide +kernel) rfl, gd_in 413 (by decide +kernel) rfl⟩
set_option maxRecDepth 20000 in
theorem kd_X2_trace : Cond.code yX2_trace cX2_trace 1 (some .int) ∈ lw_good := gd_in 418 rfl rfl
theorem kc_L_121 : kV RL 121 yX2_trace cX2_trace 1 (some .int) 0 := ⟨kd_X2_trace, gd_in 415 (by decide +kernel) rfl, ki_X2, ⟨by decide +kernel, by decide +kernel, by decide +kernel⟩, gd_in 416 (by decide +kernel) rfl, gd_in 417 (by decide +kernel) rfl⟩
set_option maxRecDepth 20000 in
theorem kd_X2_fault : Cond.code yX2_fault cX2_fault 1 (some .int) ∈ lw_good := gd_in 422 rfl rfl
theorem kc_L_126 : kV RL 126 yX2_fault cX2_fault 1 (some .int) 0 := ⟨kd_X2_fault, gd_in 419 (by decide +kernel) rfl, ki_X2, ⟨by decide +kernel, by decide +kernel, by decide +kernel⟩, gd_in 420 (by decide +kernel) rfl, gd_in 421 (by decide +kernel) rfl⟩
set_option maxRecDepth 20000 in
theorem kd_X2_many : Cond.code yX2_many cX2_many 2 (some .int) ∈ lw_good := gd_in 426 rfl rfl
theorem kc_L_130 : kV RL 130 yX2_many cX2_many 2 (some .int) 1 := ⟨kd_X2_many, gd_in 423 (by decide +kernel) rfl, ki_X2, ⟨by decide +kernel, by decide +kernel, by decide +kernel⟩, gd_in 424 (by decide +kernel) rfl, gd_in 425 (by decide +kernel) rfl⟩
set_option maxRecDepth 20000 in
theorem kd_X3_house : Cond.code yX3_house cX3_house 7 (some .int) ∈ lw_good := gd_in 527 rfl rfl
theorem kc_L_17 : kV RL 17 yX3_house cX3_house 7 (some .int) 4 := ⟨kd_X3_house, gd_in 524 (by decide +kernel) rfl, ki_X3, ⟨by decide +kernel, by decide +kernel, by decide +kernel⟩, gd_in 525 (by decide +kernel) rfl, gd_in 526 (by decide +kernel) rfl⟩
set_option maxRecDepth 20000 in
theorem kd_X3_noSheet : Cond.code yX3_noSheet cX3_noSheet 1 (some .boolean) ∈ lw_good := gd_in 530 rfl rfl
theorem kc_X3_115 : kT RX3 115 yX3_noSheet cX3_noSheet 1 (some .boolean) 1 := ⟨kd_X3_noSheet, gd_in 528 (by decide +kernel) rfl, ki_X3, ⟨by decide +kernel, by decide +kernel, by decide +kernel⟩, gd_in 529 (by decide +kernel) rfl⟩
set_option maxRecDepth 20000 in
theorem kd_X3_in : Cond.code yX3_in cX3_in 6 (some .boolean) ∈ lw_good := gd_in 534 rfl rfl
theorem kc_X3_77 : kT RX3 77 yX3_in cX3_in 6 (some .boolean) 3 := ⟨kd_X3_in, gd_in 532 (by decide +kernel) rfl, ki_X3, ⟨by decide +kernel, by decide +kernel, by decide +kernel⟩, gd_in 533 (by decide +kernel) rfl⟩
set_option maxRecDepth 20000 in
theorem kd_X3_refused : Cond.code yX3_refused cX3_refused 2 (some .int) ∈ lw_good := gd_in 538 rfl rfl
theorem kc_X3_119 : kV RX3 119 yX3_refused cX3_refused 2 (some .int) 1 := ⟨kd_X3_refused, gd_in 535 (by decide +kernel) rfl, ki_X3, ⟨by decide +kernel, by decide +kernel, by decide +kernel⟩, gd_in 537 (by decide +kernel) rfl, gd_in 23 (by decide +kernel) rfl⟩
set_option maxRecDepth 20000 in
theorem kd_X3_cellsBarred : Cond.code yX3_cellsBarred cX3_cellsBarred 6 (some .int) ∈ lw_good := gd_in 543 rfl rfl
theorem kc_X3_124 : kV RX3 124 yX3_cellsBarred cX3_cellsBarred 6 (some .int) 4 := ⟨kd_X3_cellsBarred, gd_in 540 (by decide +kernel) rfl, ki_X3, ⟨by decide +kernel, by decide +kernel, by decide +kernel⟩, gd_in 542 (by decide +kernel) rfl, gd_in 24 (by decide +kernel) rfl⟩
set_option maxRecDepth 20000 in
theorem kd_X3_failed : Cond.code yX3_failed cX3_failed 2 (some .int) ∈ lw_good := gd_in 547 rfl rfl
theorem kc_X3_107 : kV RX3 107 yX3_failed cX3_failed 2 (some .int) 1 := ⟨kd_X3_failed, gd_in 544 (by decide +kernel) rfl, ki_X3, ⟨by decide +kernel, by decide +kernel, by decide +kernel⟩, gd_in 546 (by decide +kernel) rfl, gd_in 25 (by decide +kernel) rfl⟩
set_option maxRecDepth 20000 in
theorem kd_X3_isBeyond : Cond.code yX3_isBeyond cX3_isBeyond 4 (some .boolean) ∈ lw_good := gd_in 550 rfl rfl
theorem kc_X3_111 : kT RX3 111 yX3_isBeyond cX3_isBeyond 4 (some .boolean) 3 := ⟨kd_X3_isBeyond, gd_in 548 (by decide +kernel) rfl, ki_X3, ⟨by decide +kernel, by decide +kernel, by decide +kernel⟩, gd_in 549 (by decide +kernel) rfl⟩
set_option maxRecDepth 20000 in
theorem kd_X3_readsHouse : Cond.code yX3_readsHouse cX3_readsHouse 4 (some .boolean) ∈ lw_good := gd_in 554 rfl rfl
theorem kc_X3_128 : kV RX3 128 yX3_readsHouse cX3_readsHouse 4 (some .boolean) 2 := ⟨kd_X3_readsHouse, gd_in 551 (by decide +kernel) rfl, ki_X3, ⟨by decide +kernel, by decide +kernel, by decide +kernel⟩, gd_in 553 (by decide +kernel) rfl, gd_in 26 (by decide +kernel) rfl⟩
set_option maxRecDepth 20000 in
theorem kd_X3_codeAt : Cond.code yX3_codeAt cX3_codeAt 3 (some .int) ∈ lw_good := gd_in 558 rfl rfl
theorem kc_X3_89 : kV RX3 89 yX3_codeAt cX3_codeAt 3 (some .int) 2 := ⟨kd_X3_codeAt, gd_in 555 (by decide +kernel) rfl, ki_X3, ⟨by decide +kernel, by decide +kernel, by decide +kernel⟩, gd_in 557 (by decide +kernel) rfl, gd_in 27 (by decide +kernel) rfl⟩
set_option maxRecDepth 20000 in
theorem kd_X3_figure : Cond.code yX3_figure cX3_figure 7 (some .int) ∈ lw_good := gd_in 562 rfl rfl
theorem kc_X3_99 : kV RX3 99 yX3_figure cX3_figure 7 (some .int) 4 := ⟨kd_X3_figure, gd_in 559 (by decide +kernel) rfl, ki_X3, ⟨by decide +kernel, by decide +kernel, by decide +kernel⟩, gd_in 561 (by decide +kernel) rfl, gd_in 28 (by decide +kernel) rfl⟩
set_option maxRecDepth 20000 in
theorem kd_X3_readsDoor : Cond.code yX3_readsDoor cX3_readsDoor 7 (some .boolean) ∈ lw_good := gd_in 566 rfl rfl
theorem kc_X3_103 : kV RX3 103 yX3_readsDoor cX3_readsDoor 7 (some .boolean) 2 := ⟨kd_X3_readsDoor, gd_in 563 (by decide +kernel) rfl, ki_X3, ⟨by decide +kernel, by decide +kernel, by decide +kernel⟩, gd_in 565 (by decide +kernel) rfl, gd_in 29 (by decide +kernel) rfl⟩
set_option maxRecDepth 20000 in
theorem kd_X3_ofDoor : Cond.code yX3_ofDoor cX3_ofDoor 3 (some .int) ∈ lw_good := gd_in 570 rfl rfl
theorem kc_L_22 : kV RL 22 yX3_ofDoor cX3_ofDoor 3 (some .int) 2 := ⟨kd_X3_ofDoor, gd_in 567 (by decide +kernel) rfl, ki_X3, ⟨by decide +kernel, by decide +kernel, by decide +kernel⟩, gd_in 568 (by decide +kernel) rfl, gd_in 569 (by decide +kernel) rfl⟩
set_option maxRecDepth 20000 in
theorem kd_X3_noDoor : Cond.code yX3_noDoor cX3_noDoor 2 (some .boolean) ∈ lw_good := gd_in 574 rfl rfl
theorem kc_X3_134 : kV RX3 134 yX3_noDoor cX3_noDoor 2 (some .boolean) 1 := ⟨kd_X3_noDoor, gd_in 571 (by decide +kernel) rfl, ki_X3, ⟨by decide +kernel, by decide +kernel, by decide +kernel⟩, gd_in 573 (by decide +kernel) rfl, gd_in 30 (by decide +kernel) rfl⟩
set_option maxRecDepth 20000 in
theorem kd_X3_leads : Cond.code yX3_leads cX3_leads 3 (some .int) ∈ lw_good := gd_in 578 rfl rfl
theorem kc_L_26 : kV RL 26 yX3_leads cX3_leads 3 (some .int) 2 := ⟨kd_X3_leads, gd_in 575 (by decide +kernel) rfl, ki_X3, ⟨by decide +kernel, by decide +kernel, by decide +kernel⟩, gd_in 576 (by decide +kernel) rfl, gd_in 577 (by decide +kernel) rfl⟩
set_option maxRecDepth 20000 in
theorem kd_X3_noHour : Cond.code yX3_noHour cX3_noHour 1 (some .boolean) ∈ lw_good := gd_in 581 rfl rfl
theorem kc_X3_137 : kT RX3 137 yX3_noHour cX3_noHour 1 (some .boolean) 1 := ⟨kd_X3_noHour, gd_in 579 (by decide +kernel) rfl, ki_X3, ⟨by decide +kernel, by decide +kernel, by decide +kernel⟩, gd_in 580 (by decide +kernel) rfl⟩
set_option maxRecDepth 20000 in
theorem kd_X3_leadsAt : Cond.code yX3_leadsAt cX3_leadsAt 4 (some .int) ∈ lw_good := gd_in 586 rfl rfl
theorem kc_X3_140 : kV RX3 140 yX3_leadsAt cX3_leadsAt 4 (some .int) 2 := ⟨kd_X3_leadsAt, gd_in 583 (by decide +kernel) rfl, ki_X3, ⟨by decide +kernel, by decide +kernel, by decide +kernel⟩, gd_in 585 (by decide +kernel) rfl, gd_in 31 (by decide +kernel) rfl⟩
set_option maxRecDepth 20000 in
theorem kd_X3_step : Cond.code yX3_step cX3_step 4 (some .int) ∈ lw_good := gd_in 590 rfl rfl
theorem kc_L_30 : kV RL 30 yX3_step cX3_step 4 (some .int) 2 := ⟨kd_X3_step, gd_in 587 (by decide +kernel) rfl, ki_X3, ⟨by decide +kernel, by decide +kernel, by decide +kernel⟩, gd_in 588 (by decide +kernel) rfl, gd_in 589 (by decide +kernel) rfl⟩
set_option maxRecDepth 20000 in
theorem kd_X3_turn : Cond.code yX3_turn cX3_turn 4 (some .int) ∈ lw_good := gd_in 595 rfl rfl
theorem kc_L_34 : kV RL 34 yX3_turn cX3_turn 4 (some .int) 2 := ⟨kd_X3_turn, gd_in 592 (by decide +kernel) rfl, ki_X3, ⟨by decide +kernel, by decide +kernel, by decide +kernel⟩, gd_in 593 (by decide +kernel) rfl, gd_in 594 (by decide +kernel) rfl⟩
set_option maxRecDepth 20000 in
theorem kd_X3_noRoom : Cond.code yX3_noRoom cX3_noRoom 2 (some .boolean) ∈ lw_good := gd_in 599 rfl rfl
theorem kc_X3_145 : kV RX3 145 yX3_noRoom cX3_noRoom 2 (some .boolean) 1 := ⟨kd_X3_noRoom, gd_in 596 (by decide +kernel) rfl, ki_X3, ⟨by decide +kernel, by decide +kernel, by decide +kernel⟩, gd_in 598 (by decide +kernel) rfl, gd_in 32 (by decide +kernel) rfl⟩
set_option maxRecDepth 20000 in
theorem kd_X3_walk : Cond.code yX3_walk cX3_walk 10 (some .int) ∈ lw_good := gd_in 603 rfl rfl
theorem kc_L_39 : kV RL 39 yX3_walk cX3_walk 10 (some .int) 7 := ⟨kd_X3_walk, gd_in 600 (by decide +kernel) rfl, ki_X3, ⟨by decide +kernel, by decide +kernel, by decide +kernel⟩, gd_in 601 (by decide +kernel) rfl, gd_in 602 (by decide +kernel) rfl⟩
set_option maxRecDepth 20000 in
theorem kd_X3_goWalk : Cond.code yX3_goWalk cX3_goWalk 8 none ∈ lw_good := gd_in 609 rfl rfl
theorem kc_X3_168 : kV RX3 168 yX3_goWalk cX3_goWalk 8 none 4 := ⟨kd_X3_goWalk, gd_in 606 (by decide +kernel) rfl, ki_X3, ⟨by decide +kernel, by decide +kernel, by decide +kernel⟩, gd_in 608 (by decide +kernel) rfl, gd_in 33 (by decide +kernel) rfl⟩
set_option maxRecDepth 20000 in
theorem kd_X3_behind : Cond.code yX3_behind cX3_behind 4 (some .int) ∈ lw_good := gd_in 613 rfl rfl
theorem kc_X3_160 : kV RX3 160 yX3_behind cX3_behind 4 (some .int) 3 := ⟨kd_X3_behind, gd_in 610 (by decide +kernel) rfl, ki_X3, ⟨by decide +kernel, by decide +kernel, by decide +kernel⟩, gd_in 612 (by decide +kernel) rfl, gd_in 34 (by decide +kernel) rfl⟩
set_option maxRecDepth 20000 in
theorem kd_X3_soonest : Cond.code yX3_soonest cX3_soonest 14 (some .int) ∈ lw_good := gd_in 617 rfl rfl
theorem kc_L_43 : kV RL 43 yX3_soonest cX3_soonest 14 (some .int) 4 := ⟨kd_X3_soonest, gd_in 614 (by decide +kernel) rfl, ki_X3, ⟨by decide +kernel, by decide +kernel, by decide +kernel⟩, gd_in 615 (by decide +kernel) rfl, gd_in 616 (by decide +kernel) rfl⟩
set_option maxRecDepth 20000 in
theorem kd_X3_soonestOf : Cond.code yX3_soonestOf cX3_soonestOf 7 (some .int) ∈ lw_good := gd_in 623 rfl rfl
theorem kc_X3_182 : kV RX3 182 yX3_soonestOf cX3_soonestOf 7 (some .int) 4 := ⟨kd_X3_soonestOf, gd_in 620 (by decide +kernel) rfl, ki_X3, ⟨by decide +kernel, by decide +kernel, by decide +kernel⟩, gd_in 622 (by decide +kernel) rfl, gd_in 35 (by decide +kernel) rfl⟩
set_option maxRecDepth 20000 in
theorem kd_X3_isIn : Cond.code yX3_isIn cX3_isIn 2 (some .boolean) ∈ lw_good := gd_in 626 rfl rfl
theorem kc_X3_172 : kT RX3 172 yX3_isIn cX3_isIn 2 (some .boolean) 2 := ⟨kd_X3_isIn, gd_in 624 (by decide +kernel) rfl, ki_X3, ⟨by decide +kernel, by decide +kernel, by decide +kernel⟩, gd_in 625 (by decide +kernel) rfl⟩
set_option maxRecDepth 20000 in
theorem kd_X3_setBehind : Cond.code yX3_setBehind cX3_setBehind 6 (some .int) ∈ lw_good := gd_in 630 rfl rfl
theorem kc_X3_175 : kV RX3 175 yX3_setBehind cX3_setBehind 6 (some .int) 2 := ⟨kd_X3_setBehind, gd_in 627 (by decide +kernel) rfl, ki_X3, ⟨by decide +kernel, by decide +kernel, by decide +kernel⟩, gd_in 629 (by decide +kernel) rfl, gd_in 36 (by decide +kernel) rfl⟩
set_option maxRecDepth 20000 in
theorem kd_X3_errands : Cond.code yX3_errands cX3_errands 5 (some .int) ∈ lw_good := gd_in 634 rfl rfl
theorem kc_L_48 : kV RL 48 yX3_errands cX3_errands 5 (some .int) 3 := ⟨kd_X3_errands, gd_in 631 (by decide +kernel) rfl, ki_X3, ⟨by decide +kernel, by decide +kernel, by decide +kernel⟩, gd_in 632 (by decide +kernel) rfl, gd_in 633 (by decide +kernel) rfl⟩
set_option maxRecDepth 20000 in
theorem kd_X3_haveBeen : Cond.code yX3_haveBeen cX3_haveBeen 4 (some .boolean) ∈ lw_good := gd_in 638 rfl rfl
theorem kc_X3_189 : kV RX3 189 yX3_haveBeen cX3_haveBeen 4 (some .boolean) 1 := ⟨kd_X3_haveBeen, gd_in 635 (by decide +kernel) rfl, ki_X3, ⟨by decide +kernel, by decide +kernel, by decide +kernel⟩, gd_in 637 (by decide +kernel) rfl, gd_in 37 (by decide +kernel) rfl⟩
set_option maxRecDepth 20000 in
theorem kd_X3_goHour : Cond.code yX3_goHour cX3_goHour 5 none ∈ lw_good := gd_in 642 rfl rfl
theorem kc_X3_192 : kV RX3 192 yX3_goHour cX3_goHour 5 none 1 := ⟨kd_X3_goHour, gd_in 639 (by decide +kernel) rfl, ki_X3, ⟨by decide +kernel, by decide +kernel, by decide +kernel⟩, gd_in 641 (by decide +kernel) rfl, gd_in 38 (by decide +kernel) rfl⟩
set_option maxRecDepth 20000 in
theorem kd_X3_goOn : Cond.code yX3_goOn cX3_goOn 6 none ∈ lw_good := gd_in 646 rfl rfl
theorem kc_X3_185 : kV RX3 185 yX3_goOn cX3_goOn 6 none 3 := ⟨kd_X3_goOn, gd_in 643 (by decide +kernel) rfl, ki_X3, ⟨by decide +kernel, by decide +kernel, by decide +kernel⟩, gd_in 645 (by decide +kernel) rfl, gd_in 39 (by decide +kernel) rfl⟩
set_option maxRecDepth 20000 in
theorem kd_X3_meet : Cond.code yX3_meet cX3_meet 7 (some .int) ∈ lw_good := gd_in 650 rfl rfl
theorem kc_L_52 : kV RL 52 yX3_meet cX3_meet 7 (some .int) 3 := ⟨kd_X3_meet, gd_in 647 (by decide +kernel) rfl, ki_X3, ⟨by decide +kernel, by decide +kernel, by decide +kernel⟩, gd_in 648 (by decide +kernel) rfl, gd_in 649 (by decide +kernel) rfl⟩
set_option maxRecDepth 20000 in
theorem kd_X3_cut : Cond.code yX3_cut cX3_cut 6 (some .int) ∈ lw_good := gd_in 654 rfl rfl
theorem kc_L_56 : kV RL 56 yX3_cut cX3_cut 6 (some .int) 3 := ⟨kd_X3_cut, gd_in 651 (by decide +kernel) rfl, ki_X3, ⟨by decide +kernel, by decide +kernel, by decide +kernel⟩, gd_in 652 (by decide +kernel) rfl, gd_in 653 (by decide +kernel) rfl⟩
set_option maxRecDepth 20000 in
theorem kd_X3_reach : Cond.code yX3_reach cX3_reach 6 (some .int) ∈ lw_good := gd_in 658 rfl rfl
theorem kc_L_61 : kV RL 61 yX3_reach cX3_reach 6 (some .int) 1 := ⟨kd_X3_reach, gd_in 655 (by decide +kernel) rfl, ki_X3, ⟨by decide +kernel, by decide +kernel, by decide +kernel⟩, gd_in 656 (by decide +kernel) rfl, gd_in 657 (by decide +kernel) rfl⟩
set_option maxRecDepth 20000 in
theorem kd_X3_reading : Cond.code yX3_reading cX3_reading 4 (some .int) ∈ lw_good := gd_in 662 rfl rfl
theorem kc_L_65 : kV RL 65 yX3_reading cX3_reading 4 (some .int) 3 := ⟨kd_X3_reading, gd_in 659 (by decide +kernel) rfl, ki_X3, ⟨by decide +kernel, by decide +kernel, by decide +kernel⟩, gd_in 660 (by decide +kernel) rfl, gd_in 661 (by decide +kernel) rfl⟩
set_option maxRecDepth 20000 in
theorem kd_X3_back : Cond.code yX3_back cX3_back 2 (some .int) ∈ lw_good := gd_in 666 rfl rfl
theorem kc_L_69 : kV RL 69 yX3_back cX3_back 2 (some .int) 1 := ⟨kd_X3_back, gd_in 663 (by decide +kernel) rfl, ki_X3, ⟨by decide +kernel, by decide +kernel, by decide +kernel⟩, gd_in 664 (by decide +kernel) rfl, gd_in 665 (by decide +kernel) rfl⟩
set_option maxRecDepth 20000 in
theorem kd_X3_steps : Cond.code yX3_steps cX3_steps 5 (some .int) ∈ lw_good := gd_in 670 rfl rfl
theorem kc_L_73 : kV RL 73 yX3_steps cX3_steps 5 (some .int) 1 := ⟨kd_X3_steps, gd_in 667 (by decide +kernel) rfl, ki_X3, ⟨by decide +kernel, by decide +kernel, by decide +kernel⟩, gd_in 668 (by decide +kernel) rfl, gd_in 669 (by decide +kernel) rfl⟩
set_option maxRecDepth 20000 in
theorem kd_X3_areSo : Cond.code yX3_areSo cX3_areSo 3 (some .boolean) ∈ lw_good := gd_in 674 rfl rfl
theorem kc_X3_196 : kV RX3 196 yX3_areSo cX3_areSo 3 (some .boolean) 0 := ⟨kd_X3_areSo, gd_in 671 (by decide +kernel) rfl, ki_X3, ⟨by decide +kernel, by decide +kernel, by decide +kernel⟩, gd_in 673 (by decide +kernel) rfl, gd_in 40 (by decide +kernel) rfl⟩
set_option maxRecDepth 20000 in
theorem kd_X3_targets : Cond.code yX3_targets cX3_targets 5 (some .int) ∈ lw_good := gd_in 678 rfl rfl
theorem kc_L_77 : kV RL 77 yX3_targets cX3_targets 5 (some .int) 1 := ⟨kd_X3_targets, gd_in 675 (by decide +kernel) rfl, ki_X3, ⟨by decide +kernel, by decide +kernel, by decide +kernel⟩, gd_in 676 (by decide +kernel) rfl, gd_in 677 (by decide +kernel) rfl⟩
set_option maxRecDepth 20000 in
theorem kd_X3_kinds : Cond.code yX3_kinds cX3_kinds 5 (some .int) ∈ lw_good := gd_in 682 rfl rfl
theorem kc_L_81 : kV RL 81 yX3_kinds cX3_kinds 5 (some .int) 1 := ⟨kd_X3_kinds, gd_in 679 (by decide +kernel) rfl, ki_X3, ⟨by decide +kernel, by decide +kernel, by decide +kernel⟩, gd_in 680 (by decide +kernel) rfl, gd_in 681 (by decide +kernel) rfl⟩
set_option maxRecDepth 20000 in
theorem kd_X3_odds : Cond.code yX3_odds cX3_odds 8 (some .long) ∈ lw_good := gd_in 686 rfl rfl
theorem kc_L_86 : kV RL 86 yX3_odds cX3_odds 8 (some .long) 4 := ⟨kd_X3_odds, gd_in 683 (by decide +kernel) rfl, ki_X3, ⟨by decide +kernel, by decide +kernel, by decide +kernel⟩, gd_in 684 (by decide +kernel) rfl, gd_in 685 (by decide +kernel) rfl⟩
set_option maxRecDepth 20000 in
theorem kd_X3_lost : Cond.code yX3_lost cX3_lost 0 (some .long) ∈ lw_good := gd_in 690 rfl rfl
theorem kc_X3_70 : kT RX3 70 yX3_lost cX3_lost 0 (some .long) 0 := ⟨kd_X3_lost, gd_in 688 (by decide +kernel) rfl, ki_X3, ⟨by decide +kernel, by decide +kernel, by decide +kernel⟩, gd_in 689 (by decide +kernel) rfl⟩
set_option maxRecDepth 20000 in
theorem kd_X3_share : Cond.code yX3_share cX3_share 11 (some .long) ∈ lw_good := gd_in 695 rfl rfl
theorem kc_X3_204 : kT RX3 204 yX3_share cX3_share 11 (some .long) 3 := ⟨kd_X3_share, gd_in 693 (by decide +kernel) rfl, ki_X3, ⟨by decide +kernel, by decide +kernel, by decide +kernel⟩, gd_in 694 (by decide +kernel) rfl⟩
set_option maxRecDepth 20000 in
theorem kd_X3_sheet : Cond.code yX3_sheet cX3_sheet 5 (some .int) ∈ lw_good := gd_in 699 rfl rfl
theorem kc_L_90 : kV RL 90 yX3_sheet cX3_sheet 5 (some .int) 3 := ⟨kd_X3_sheet, gd_in 696 (by decide +kernel) rfl, ki_X3, ⟨by decide +kernel, by decide +kernel, by decide +kernel⟩, gd_in 697 (by decide +kernel) rfl, gd_in 698 (by decide +kernel) rfl⟩
set_option maxRecDepth 20000 in
theorem kd_X3_lose : Cond.code yX3_lose cX3_lose 3 (some .int) ∈ lw_good := gd_in 703 rfl rfl
theorem kc_L_94 : kV RL 94 yX3_lose cX3_lose 3 (some .int) 1 := ⟨kd_X3_lose, gd_in 700 (by decide +kernel) rfl, ki_X3, ⟨by decide +kernel, by decide +kernel, by decide +kernel⟩, gd_in 701 (by decide +kernel) rfl, gd_in 702 (by decide +kernel) rfl⟩
set_option maxRecDepth 20000 in
theorem kd_X3_put : Cond.code yX3_put cX3_put 4 (some .int) ∈ lw_good := gd_in 707 rfl rfl
theorem kc_L_98 : kV RL 98 yX3_put cX3_put 4 (some .int) 3 := ⟨kd_X3_put, gd_in 704 (by decide +kernel) rfl, ki_X3, ⟨by decide +kernel, by decide +kernel, by decide +kernel⟩, gd_in 705 (by decide +kernel) rfl, gd_in 706 (by decide +kernel) rfl⟩
set_option maxRecDepth 20000 in
theorem kd_X3_noCell : Cond.code yX3_noCell cX3_noCell 3 (some .int) ∈ lw_good := gd_in 711 rfl rfl
theorem kc_X3_210 : kV RX3 210 yX3_noCell cX3_noCell 3 (some .int) 2 := ⟨kd_X3_noCell, gd_in 708 (by decide +kernel) rfl, ki_X3, ⟨by decide +kernel, by decide +kernel, by decide +kernel⟩, gd_in 710 (by decide +kernel) rfl, gd_in 41 (by decide +kernel) rfl⟩
set_option maxRecDepth 20000 in
theorem kd_X3_cell : Cond.code yX3_cell cX3_cell 4 (some .long) ∈ lw_good := gd_in 715 rfl rfl
theorem kc_L_103 : kV RL 103 yX3_cell cX3_cell 4 (some .long) 3 := ⟨kd_X3_cell, gd_in 712 (by decide +kernel) rfl, ki_X3, ⟨by decide +kernel, by decide +kernel, by decide +kernel⟩, gd_in 713 (by decide +kernel) rfl, gd_in 714 (by decide +kernel) rfl⟩
set_option maxRecDepth 20000 in
theorem kd_X3_failedLong : Cond.code yX3_failedLong cX3_failedLong 2 (some .long) ∈ lw_good := gd_in 719 rfl rfl
theorem kc_X3_213 : kV RX3 213 yX3_failedLong cX3_failedLong 2 (some .long) 1 := ⟨kd_X3_failedLong, gd_in 716 (by decide +kernel) rfl, ki_X3, ⟨by decide +kernel, by decide +kernel, by decide +kernel⟩, gd_in 718 (by decide +kernel) rfl, gd_in 42 (by decide +kernel) rfl⟩
set_option maxRecDepth 20000 in
theorem kd_X3_copy : Cond.code yX3_copy cX3_copy 7 (some .int) ∈ lw_good := gd_in 723 rfl rfl
theorem kc_L_108 : kV RL 108 yX3_copy cX3_copy 7 (some .int) 5 := ⟨kd_X3_copy, gd_in 720 (by decide +kernel) rfl, ki_X3, ⟨by decide +kernel, by decide +kernel, by decide +kernel⟩, gd_in 721 (by decide +kernel) rfl, gd_in 722 (by decide +kernel) rfl⟩
set_option maxRecDepth 20000 in
theorem kd_X3_tell : Cond.code yX3_tell cX3_tell 4 (some .int) ∈ lw_good := gd_in 727 rfl rfl
theorem kc_L_112 : kV RL 112 yX3_tell cX3_tell 4 (some .int) 1 := ⟨kd_X3_tell, gd_in 724 (by decide +kernel) rfl, ki_X3, ⟨by decide +kernel, by decide +kernel, by decide +kernel⟩, gd_in 725 (by decide +kernel) rfl, gd_in 726 (by decide +kernel) rfl⟩
set_option maxRecDepth 20000 in
theorem kd_X3_traced : Cond.code yX3_traced cX3_traced 2 none ∈ lw_good := gd_in 731 rfl rfl
theorem kc_X3_220 : kV RX3 220 yX3_traced cX3_traced 2 none 1 := ⟨kd_X3_traced, gd_in 728 (by decide +kernel) rfl, ki_X3, ⟨by decide +kernel, by decide +kernel, by decide +kernel⟩, gd_in 730 (by decide +kernel) rfl, gd_in 43 (by decide +kernel) rfl⟩
set_option maxRecDepth 20000 in
theorem kd_X3_knock : Cond.code yX3_knock cX3_knock 2 (some .int) ∈ lw_good := gd_in 735 rfl rfl
theorem kc_L_116 : kV RL 116 yX3_knock cX3_knock 2 (some .int) 1 := ⟨kd_X3_knock, gd_in 732 (by decide +kernel) rfl, ki_X3, ⟨by decide +kernel, by decide +kernel, by decide +kernel⟩, gd_in 733 (by decide +kernel) rfl, gd_in 734 (by decide +kernel) rfl⟩
set_option maxRecDepth 20000 in
theorem kd_X3_as : Cond.code yX3_as cX3_as 3 (some .int) ∈ lw_good := gd_in 739 rfl rfl
theorem kc_L_120 : kV RL 120 yX3_as cX3_as 3 (some .int) 2 := ⟨kd_X3_as, gd_in 736 (by decide +kernel) rfl, ki_X3, ⟨by decide +kernel, by decide +kernel, by decide +kernel⟩, gd_in 737 (by decide +kernel) rfl, gd_in 738 (by decide +kernel) rfl⟩
set_option maxRecDepth 20000 in
theorem kd_X3_trace : Cond.code yX3_trace cX3_trace 1 (some .int) ∈ lw_good := gd_in 743 rfl rfl
theorem kc_L_125 : kV RL 125 yX3_trace cX3_trace 1 (some .int) 0 := ⟨kd_X3_trace, gd_in 740 (by decide +kernel) rfl, ki_X3, ⟨by decide +kernel, by decide +kernel, by decide +kernel⟩, gd_in 741 (by decide +kernel) rfl, gd_in 742 (by decide +kernel) rfl⟩
set_option maxRecDepth 20000 in
theorem kd_X3_fault : Cond.code yX3_fault cX3_fault 1 (some .int) ∈ lw_good := gd_in 747 rfl rfl
theorem kc_L_129 : kV RL 129 yX3_fault cX3_fault 1 (some .int) 0 := ⟨kd_X3_fault, gd_in 744 (by decide +kernel) rfl, ki_X3, ⟨by decide +kernel, by decide +kernel, by decide +kernel⟩, gd_in 745 (by decide +kernel) rfl, gd_in 746 (by decide +kernel) rfl⟩
set_option maxRecDepth 20000 in
theorem kd_X3_many : Cond.code yX3_many cX3_many 2 (some .int) ∈ lw_good := gd_in 751 rfl rfl
theorem kc_L_133 : kV RL 133 yX3_many cX3_many 2 (some .int) 1 := ⟨kd_X3_many, gd_in 748 (by decide +kernel) rfl, ki_X3, ⟨by decide +kernel, by decide +kernel, by decide +kernel⟩, gd_in 749 (by decide +kernel) rfl, gd_in 750 (by decide +kernel) rfl⟩
theorem kacp_nat : Cond.native arraycopyName ∈ lw_good := gd_in 295 (by decide +kernel) rfl
theorem kacp_st : Cond.static arraycopyName ∈ lw_good := gd_in 294 (by decide +kernel) rfl
