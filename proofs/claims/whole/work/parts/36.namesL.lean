def wsL_law0_r1 : List Cond := [Cond.classLink RL 8 RX4, Cond.instantiable RX4 6, Cond.initialized RX4, Cond.classLink RL 57 RX5, Cond.instantiable RX5 11, Cond.initialized RX5, Cond.arrayClass .long, Cond.methodLink RL 56 yX4_init, Cond.instanceMethod yX4_init, Cond.code yX4_init cX4_init 1 none, Cond.methodLink RX4 3 objectInit, Cond.instanceMethod objectInit, Cond.code objectInit ⟨#[0xb1]⟩ 1 none, Cond.classLink RX4 9 RX3, Cond.instantiable RX3 2, Cond.initialized RX3, Cond.fieldLink RX4 12 "ReefPilot" "table" "LReefPilot$Table;", Cond.classLink RX4 16 RX0, Cond.instantiable RX0 4, Cond.initialized RX0, Cond.fieldLink RX4 19 "ReefPilot" "coast" "LReefPilot$Coast;", Cond.fieldLink RX4 23 "ReefPilot" "ahead" "LReefPilot$Coast;", Cond.classLink RX4 26 RX1, Cond.instantiable RX1 2]
def wsL_law0_r2 : List Cond := [Cond.initialized RX1, Cond.fieldLink RX4 29 "ReefPilot" "soundings" "LReefPilot$Soundings;", Cond.classLink RX4 33 RX2, Cond.instantiable RX2 4, Cond.initialized RX2, Cond.fieldLink RX4 36 "ReefPilot" "spread" "LReefPilot$Spread;", Cond.arrayClass .int, Cond.fieldLink RX4 40 "ReefPilot" "water" "[I", Cond.methodLink RX4 11 yX3_init, Cond.instanceMethod yX3_init, Cond.code yX3_init cX3_init 1 none, Cond.methodLink RX3 3 objectInit, Cond.fieldLink RX3 9 "ReefPilot$Table" "warmth" "[I", Cond.fieldLink RX3 15 "ReefPilot$Table" "storm" "[I", Cond.methodLink RX3 18 yJ7_fill_53178, Cond.static yJ7_fill_53178, Cond.initialized RJ7, Cond.code yJ7_fill_53178 cJ7_fill_53178 4 none, Cond.methodLink RX4 18 yX0_init, Cond.instanceMethod yX0_init, Cond.code yX0_init cX0_init 1 none, Cond.methodLink RX0 3 objectInit, Cond.fieldLink RX0 9 "ReefPilot$Coast" "ground" "[I", Cond.fieldLink RX0 15 "ReefPilot$Coast" "coral" "[I"]
def wsL_law0_r3 : List Cond := [Cond.arrayClass .boolean, Cond.fieldLink RX0 18 "ReefPilot$Coast" "headBefore" "[Z", Cond.methodLink RX0 22 yJ7_fill_53178, Cond.methodLink RX4 28 yX1_init, Cond.instanceMethod yX1_init, Cond.code yX1_init cX1_init 1 none, Cond.methodLink RX1 3 objectInit, Cond.fieldLink RX1 9 "ReefPilot$Soundings" "depth" "[I", Cond.fieldLink RX1 15 "ReefPilot$Soundings" "takenIn" "[I", Cond.methodLink RX1 18 yJ7_fill_53178, Cond.instanceMethod yX2_init, Cond.code yX2_init cX2_init 1 none, Cond.methodLink RX2 3 objectInit, Cond.fieldLink RX2 9 "ReefPilot$Spread" "open" "[Z", Cond.fieldLink RX2 15 "ReefPilot$Spread" "steps" "[I", Cond.fieldLink RX2 19 "ReefPilot$Spread" "reached" "[I", Cond.methodLink RL 59 yX5_init, Cond.instanceMethod yX5_init, Cond.code yX5_init cX5_init 2 none, Cond.methodLink RX5 1 objectInit, Cond.fieldLink RX5 9 "ReefPilotModel" "ground" "[I", Cond.fieldLink RX5 13 "ReefPilotModel" "coral" "[I", Cond.fieldLink RX5 16 "ReefPilotModel" "sounding" "[I", Cond.fieldLink RX5 19 "ReefPilotModel" "taken" "[I"]
def wsL_law0_r4 : List Cond := [Cond.fieldLink RX5 22 "ReefPilotModel" "warmth" "[I", Cond.fieldLink RX5 25 "ReefPilotModel" "storms" "[I", Cond.fieldLink RX5 28 "ReefPilotModel" "next" "[I", Cond.fieldLink RX5 31 "ReefPilotModel" "label" "[I", Cond.fieldLink RX5 34 "ReefPilotModel" "far" "[I", Cond.methodLink RL 60 yL_setGround, Cond.static yL_setGround, Cond.initialized RL, Cond.codeWith yL_setGround cL_setGround 6 (some .int) [(0, 12, 15, 13), (0, 12, 19, 15)], Cond.classLink RL 13 "java/lang/IndexOutOfBoundsException", Cond.classLink RL 15 "java/lang/IllegalArgumentException", Cond.methodLink RL 7 yX4_setGround, Cond.instanceMethod yX4_setGround, Cond.selects RX4 yX4_setGround yX4_setGround, Cond.code yX4_setGround cX4_setGround 4 (some .int), Cond.methodLink RX4 44 yX4_needCell, Cond.static yX4_needCell, Cond.code yX4_needCell cX4_needCell 2 none, Cond.methodLink RX4 63 yX4_needIndex, Cond.static yX4_needIndex, Cond.code yX4_needIndex cX4_needIndex 2 none, Cond.classLink RX4 156 "java/lang/IndexOutOfBoundsException", Cond.initialized "java/lang/IndexOutOfBoundsException", Cond.methodLink RX4 48 yX4_needWithin]
def wsL_law0_r5 : List Cond := [Cond.static yX4_needWithin, Cond.code yX4_needWithin cX4_needWithin 3 none, Cond.classLink RX4 163 "java/lang/IllegalArgumentException", Cond.initialized "java/lang/IllegalArgumentException", Cond.methodLink RX4 52 yX0_layGround, Cond.instanceMethod yX0_layGround, Cond.selects RX0 yX0_layGround yX0_layGround, Cond.code yX0_layGround cX0_layGround 4 (some .int), Cond.methodLink RX0 38 Lib.Math.min.name, Cond.static Lib.Math.min.name, Cond.initialized "java/lang/Math", Cond.code Lib.Math.min.name Lib.Math.min.code 2 (some .int), Cond.methodLink RL 65 yX5_setGround, Cond.instanceMethod yX5_setGround, Cond.selects RX5 yX5_setGround yX5_setGround, Cond.code yX5_setGround cX5_setGround 6 (some .int), Cond.fieldLink RX5 37 "ReefPilotModel" "thrown" "I", Cond.methodLink RX5 66 Lib.Math.min.name, Cond.methodLink RX5 58 yX5_isCell, Cond.static yX5_isCell, Cond.code yX5_isCell cX5_isCell 2 (some .boolean), Cond.methodLink RX5 41 yX5_isIn, Cond.static yX5_isIn, Cond.code yX5_isIn cX5_isIn 3 (some .boolean)]
def wsL_law0_r6 : List Cond := [Cond.methodLink RX5 62 yX5_fail, Cond.instanceMethod yX5_fail, Cond.selects RX5 yX5_fail yX5_fail, Cond.code yX5_fail cX5_fail 2 (some .int), Cond.methodLink RL 66 yX5_thrown, Cond.instanceMethod yX5_thrown, Cond.selects RX5 yX5_thrown yX5_thrown, Cond.code yX5_thrown cX5_thrown 1 (some .int), Cond.methodLink RL 70 yL_plant, Cond.static yL_plant, Cond.codeWith yL_plant cL_plant 6 (some .int) [(0, 12, 15, 13), (0, 12, 19, 15)], Cond.methodLink RL 17 yX4_plant, Cond.instanceMethod yX4_plant, Cond.selects RX4 yX4_plant yX4_plant, Cond.code yX4_plant cX4_plant 4 (some .int), Cond.methodLink RX4 56 yX0_groundOf, Cond.instanceMethod yX0_groundOf, Cond.selects RX0 yX0_groundOf yX0_groundOf, Cond.code yX0_groundOf cX0_groundOf 2 (some .int), Cond.methodLink RX4 60 yX0_setCoral, Cond.instanceMethod yX0_setCoral, Cond.selects RX0 yX0_setCoral yX0_setCoral, Cond.code yX0_setCoral cX0_setCoral 4 (some .int), Cond.methodLink RL 72 yX5_plant]
def wsL_law0_r7 : List Cond := [Cond.instanceMethod yX5_plant, Cond.selects RX5 yX5_plant yX5_plant, Cond.code yX5_plant cX5_plant 6 (some .int), Cond.methodLink RL 73 yL_setMonth, Cond.static yL_setMonth, Cond.codeWith yL_setMonth cL_setMonth 6 (some .int) [(0, 12, 15, 13), (0, 12, 19, 15)], Cond.methodLink RL 20 yX4_setMonth, Cond.instanceMethod yX4_setMonth, Cond.selects RX4 yX4_setMonth yX4_setMonth, Cond.code yX4_setMonth cX4_setMonth 5 (some .int), Cond.methodLink RX4 66 yX3_entry, Cond.instanceMethod yX3_entry, Cond.selects RX3 yX3_entry yX3_entry, Cond.code yX3_entry cX3_entry 2 (some .int), Cond.methodLink RX4 69 yX3_write, Cond.instanceMethod yX3_write, Cond.selects RX3 yX3_write yX3_write, Cond.code yX3_write cX3_write 4 none, Cond.methodLink RL 75 yX5_setMonth, Cond.instanceMethod yX5_setMonth, Cond.selects RX5 yX5_setMonth yX5_setMonth, Cond.code yX5_setMonth cX5_setMonth 5 (some .int), Cond.methodLink RL 76 yL_cell, Cond.static yL_cell]
def wsL_law0_r8 : List Cond := [Cond.codeWith yL_cell cL_cell 6 (some .int) [(0, 12, 15, 13)], Cond.methodLink RL 23 yX4_cell, Cond.instanceMethod yX4_cell, Cond.selects RX4 yX4_cell yX4_cell, Cond.code yX4_cell cX4_cell 5 (some .int), Cond.methodLink RX4 72 yX0_coralOf, Cond.instanceMethod yX0_coralOf, Cond.selects RX0 yX0_coralOf yX0_coralOf, Cond.code yX0_coralOf cX0_coralOf 2 (some .int), Cond.methodLink RX4 75 yX0_depthOf, Cond.instanceMethod yX0_depthOf, Cond.selects RX0 yX0_depthOf yX0_depthOf, Cond.code yX0_depthOf cX0_depthOf 2 (some .int), Cond.methodLink RX0 44 Lib.Math.max.name, Cond.static Lib.Math.max.name, Cond.code Lib.Math.max.name Lib.Math.max.code 2 (some .int), Cond.methodLink RX4 78 yX0_isHead, Cond.instanceMethod yX0_isHead, Cond.selects RX0 yX0_isHead yX0_isHead, Cond.code yX0_isHead cX0_isHead 2 (some .boolean), Cond.methodLink RX4 82 yX4_headsOfReefAt, Cond.instanceMethod yX4_headsOfReefAt, Cond.selects RX4 yX4_headsOfReefAt yX4_headsOfReefAt, Cond.code yX4_headsOfReefAt cX4_headsOfReefAt 2 (some .int)]
def wsL_law0_r9 : List Cond := [Cond.methodLink RX4 186 yX4_openHeads, Cond.instanceMethod yX4_openHeads, Cond.selects RX4 yX4_openHeads yX4_openHeads, Cond.code yX4_openHeads cX4_openHeads 3 none, Cond.methodLink RX4 192 yX2_clear, Cond.instanceMethod yX2_clear, Cond.selects RX2 yX2_clear yX2_clear, Cond.code yX2_clear cX2_clear 1 none, Cond.fieldLink RX2 28 "ReefPilot$Spread" "reachedCells" "I", Cond.methodLink RX2 22 yJ7_fill_53178, Cond.methodLink RX4 195 yX2_setOpen, Cond.instanceMethod yX2_setOpen, Cond.selects RX2 yX2_setOpen yX2_setOpen, Cond.code yX2_setOpen cX2_setOpen 3 none, Cond.methodLink RX4 189 yX2_goFromCell, Cond.instanceMethod yX2_goFromCell, Cond.selects RX2 yX2_goFromCell yX2_goFromCell, Cond.code yX2_goFromCell cX2_goFromCell 3 (some .int), Cond.methodLink RX2 32 yX2_reach, Cond.instanceMethod yX2_reach, Cond.selects RX2 yX2_reach yX2_reach, Cond.code yX2_reach cX2_reach 3 none, Cond.methodLink RX2 36 yX2_goOnFrom, Cond.instanceMethod yX2_goOnFrom]
def wsL_law0_r10 : List Cond := [Cond.selects RX2 yX2_goOnFrom yX2_goOnFrom, Cond.code yX2_goOnFrom cX2_goOnFrom 6 none, Cond.static yX4_neighbour, Cond.code yX4_neighbour cX4_neighbour 3 (some .int), Cond.methodLink RL 78 yX5_cell, Cond.instanceMethod yX5_cell, Cond.selects RX5 yX5_cell yX5_cell, Cond.code yX5_cell cX5_cell 5 (some .int), Cond.methodLink RX5 72 yX5_depth, Cond.instanceMethod yX5_depth, Cond.selects RX5 yX5_depth yX5_depth, Cond.code yX5_depth cX5_depth 2 (some .int), Cond.methodLink RX5 45 Lib.Math.max.name, Cond.methodLink RX5 54 yX5_isHead, Cond.instanceMethod yX5_isHead, Cond.selects RX5 yX5_isHead yX5_isHead, Cond.code yX5_isHead cX5_isHead 2 (some .boolean), Cond.methodLink RX5 75 yX5_reefOf, Cond.instanceMethod yX5_reefOf, Cond.selects RX5 yX5_reefOf yX5_reefOf, Cond.code yX5_reefOf cX5_reefOf 4 (some .int), Cond.methodLink RX5 69 yX5_mark, Cond.instanceMethod yX5_mark, Cond.selects RX5 yX5_mark yX5_mark]
def wsL_law0_r11 : List Cond := [Cond.code yX5_mark cX5_mark 5 none, Cond.methodLink RX5 51 yX5_beside, Cond.static yX5_beside, Cond.code yX5_beside cX5_beside 2 (some .int), Cond.methodLink RL 79 yL_sound, Cond.static yL_sound, Cond.codeWith yL_sound cL_sound 5 (some .int) [(0, 10, 13, 13)], Cond.methodLink RL 26 yX4_sound, Cond.instanceMethod yX4_sound, Cond.selects RX4 yX4_sound yX4_sound, Cond.code yX4_sound cX4_sound 6 (some .int), Cond.methodLink RX4 85 yX1_noted, Cond.instanceMethod yX1_noted, Cond.selects RX1 yX1_noted yX1_noted, Cond.code yX1_noted cX1_noted 2 (some .int), Cond.methodLink RX4 88 yX0_monthNow, Cond.instanceMethod yX0_monthNow, Cond.selects RX0 yX0_monthNow yX0_monthNow, Cond.code yX0_monthNow cX0_monthNow 1 (some .int), Cond.fieldLink RX0 34 "ReefPilot$Coast" "month" "I", Cond.methodLink RX4 92 yX1_note, Cond.instanceMethod yX1_note, Cond.selects RX1 yX1_note yX1_note, Cond.code yX1_note cX1_note 4 none]
def wsL_law0_r12 : List Cond := [Cond.methodLink RL 82 yX5_sound, Cond.instanceMethod yX5_sound, Cond.selects RX5 yX5_sound yX5_sound, Cond.code yX5_sound cX5_sound 5 (some .int), Cond.fieldLink RX5 78 "ReefPilotModel" "month" "I", Cond.methodLink RL 83 yL_chart, Cond.static yL_chart, Cond.codeWith yL_chart cL_chart 6 (some .int) [(0, 12, 15, 13)], Cond.methodLink RL 30 yX4_chart, Cond.instanceMethod yX4_chart, Cond.selects RX4 yX4_chart yX4_chart, Cond.code yX4_chart cX4_chart 4 (some .int), Cond.methodLink RX4 95 yX4_chartAnswer, Cond.instanceMethod yX4_chartAnswer, Cond.selects RX4 yX4_chartAnswer yX4_chartAnswer, Cond.code yX4_chartAnswer cX4_chartAnswer 3 (some .int), Cond.methodLink RX4 183 yX1_age, Cond.instanceMethod yX1_age, Cond.selects RX1 yX1_age yX1_age, Cond.code yX1_age cX1_age 3 (some .int), Cond.methodLink RX4 142 yX4_safeDepth, Cond.instanceMethod yX4_safeDepth, Cond.selects RX4 yX4_safeDepth yX4_safeDepth, Cond.code yX4_safeDepth cX4_safeDepth 3 (some .int)]
def wsL_law0_r13 : List Cond := [Cond.methodLink RX4 145 Lib.Math.max.name, Cond.methodLink RL 85 yX5_chart, Cond.instanceMethod yX5_chart, Cond.selects RX5 yX5_chart yX5_chart, Cond.code yX5_chart cX5_chart 4 (some .int), Cond.methodLink RX5 81 yX5_charted, Cond.instanceMethod yX5_charted, Cond.selects RX5 yX5_charted yX5_charted, Cond.code yX5_charted cX5_charted 4 (some .int), Cond.methodLink RL 86 yL_way, Cond.static yL_way, Cond.codeWith yL_way cL_way 5 (some .int) [(0, 10, 13, 15)], Cond.methodLink RL 33 yX4_way, Cond.instanceMethod yX4_way, Cond.selects RX4 yX4_way yX4_way, Cond.code yX4_way cX4_way 4 (some .int), Cond.methodLink RX4 98 yX4_countOn, Cond.instanceMethod yX4_countOn, Cond.selects RX4 yX4_countOn yX4_countOn, Cond.code yX4_countOn cX4_countOn 2 none, Cond.methodLink RX4 199 yX4_countOnChart, Cond.instanceMethod yX4_countOnChart, Cond.selects RX4 yX4_countOnChart yX4_countOnChart, Cond.code yX4_countOnChart cX4_countOnChart 2 none]
def wsL_law0_r14 : List Cond := [Cond.methodLink RX4 135 yX4_countOnDepths, Cond.instanceMethod yX4_countOnDepths, Cond.selects RX4 yX4_countOnDepths yX4_countOnDepths, Cond.code yX4_countOnDepths cX4_countOnDepths 3 none, Cond.methodLink RX4 102 yX4_startOfShortestWay, Cond.instanceMethod yX4_startOfShortestWay, Cond.selects RX4 yX4_startOfShortestWay yX4_startOfShortestWay, Cond.code yX4_startOfShortestWay cX4_startOfShortestWay 5 (some .int), Cond.methodLink RX4 111 yX4_openWater, Cond.instanceMethod yX4_openWater, Cond.selects RX4 yX4_openWater yX4_openWater, Cond.code yX4_openWater cX4_openWater 3 none, Cond.methodLink RX4 115 yX2_goFromRow, Cond.instanceMethod yX2_goFromRow, Cond.selects RX2 yX2_goFromRow yX2_goFromRow, Cond.code yX2_goFromRow cX2_goFromRow 4 none, Cond.methodLink RX4 105 yX2_stepsTo, Cond.instanceMethod yX2_stepsTo, Cond.selects RX2 yX2_stepsTo yX2_stepsTo, Cond.code yX2_stepsTo cX2_stepsTo 2 (some .int), Cond.methodLink RL 89 yX5_way, Cond.instanceMethod yX5_way, Cond.selects RX5 yX5_way yX5_way, Cond.code yX5_way cX5_way 3 (some .int)]
def wsL_law0_r15 : List Cond := [Cond.methodLink RX5 88 yX5_shortest, Cond.instanceMethod yX5_shortest, Cond.selects RX5 yX5_shortest yX5_shortest, Cond.code yX5_shortest cX5_shortest 5 (some .int), Cond.methodLink RX5 84 yX5_spread, Cond.instanceMethod yX5_spread, Cond.selects RX5 yX5_spread yX5_spread, Cond.code yX5_spread cX5_spread 8 none, Cond.methodLink RL 90 yX4_deepest, Cond.instanceMethod yX4_deepest, Cond.selects RX4 yX4_deepest yX4_deepest, Cond.code yX4_deepest cX4_deepest 2 (some .int), Cond.methodLink RX4 108 yX4_greatestDraught, Cond.instanceMethod yX4_greatestDraught, Cond.selects RX4 yX4_greatestDraught yX4_greatestDraught, Cond.code yX4_greatestDraught cX4_greatestDraught 2 (some .int), Cond.methodLink RL 94 yX5_deepest, Cond.instanceMethod yX5_deepest, Cond.selects RX5 yX5_deepest yX5_deepest, Cond.code yX5_deepest cX5_deepest 2 (some .int), Cond.methodLink RX5 92 yX5_most, Cond.instanceMethod yX5_most, Cond.selects RX5 yX5_most yX5_most, Cond.code yX5_most cX5_most 3 (some .int)]
def wsL_law0_r16 : List Cond := [Cond.methodLink RL 95 yL_harbours, Cond.static yL_harbours, Cond.codeWith yL_harbours cL_harbours 4 (some .int) [(0, 9, 12, 15)], Cond.methodLink RL 37 yX4_harbours, Cond.instanceMethod yX4_harbours, Cond.selects RX4 yX4_harbours yX4_harbours, Cond.code yX4_harbours cX4_harbours 4 (some .int), Cond.methodLink RL 98 yX5_harbours, Cond.instanceMethod yX5_harbours, Cond.selects RX5 yX5_harbours yX5_harbours, Cond.code yX5_harbours cX5_harbours 4 (some .int), Cond.methodLink RL 99 yL_pilot, Cond.static yL_pilot, Cond.codeWith yL_pilot cL_pilot 4 (some .int) [(0, 9, 12, 15)], Cond.methodLink RL 41 yX4_pilot, Cond.instanceMethod yX4_pilot, Cond.selects RX4 yX4_pilot yX4_pilot, Cond.code yX4_pilot cX4_pilot 3 (some .int), Cond.methodLink RX4 118 yX4_leadFrom, Cond.instanceMethod yX4_leadFrom, Cond.selects RX4 yX4_leadFrom yX4_leadFrom, Cond.code yX4_leadFrom cX4_leadFrom 5 (some .int), Cond.methodLink RX4 202 yX2_nearerFrom, Cond.instanceMethod yX2_nearerFrom]
def wsL_law0_r17 : List Cond := [Cond.selects RX2 yX2_nearerFrom yX2_nearerFrom, Cond.code yX2_nearerFrom cX2_nearerFrom 5 (some .int), Cond.methodLink RL 101 yX5_pilot, Cond.instanceMethod yX5_pilot, Cond.selects RX5 yX5_pilot yX5_pilot, Cond.code yX5_pilot cX5_pilot 6 (some .int), Cond.methodLink RL 102 yL_pass, Cond.static yL_pass, Cond.codeWith yL_pass cL_pass 4 (some .int) [(0, 9, 12, 15)], Cond.methodLink RL 44 yX4_pass, Cond.instanceMethod yX4_pass, Cond.selects RX4 yX4_pass yX4_pass, Cond.code yX4_pass cX4_pass 4 (some .int), Cond.methodLink RX4 121 yX0_heads, Cond.instanceMethod yX0_heads, Cond.selects RX0 yX0_heads yX0_heads, Cond.code yX0_heads cX0_heads 3 (some .int), Cond.methodLink RX0 47 yX0_isHead, Cond.methodLink RX4 124 yX0_letMonthGo, Cond.instanceMethod yX0_letMonthGo, Cond.selects RX0 yX0_letMonthGo yX0_letMonthGo, Cond.code yX0_letMonthGo cX0_letMonthGo 2 none, Cond.methodLink RX0 51 yX3_warmthIn, Cond.instanceMethod yX3_warmthIn]
def wsL_law0_r18 : List Cond := [Cond.selects RX3 yX3_warmthIn yX3_warmthIn, Cond.code yX3_warmthIn cX3_warmthIn 2 (some .int), Cond.methodLink RX3 24 yJ9_floorMod_7cf53, Cond.static yJ9_floorMod_7cf53, Cond.initialized RJ9, Cond.code yJ9_floorMod_7cf53 cJ9_floorMod_7cf53 3 (some .int), Cond.methodLink RX0 57 yX0_changeByWarmth, Cond.instanceMethod yX0_changeByWarmth, Cond.selects RX0 yX0_changeByWarmth yX0_changeByWarmth, Cond.code yX0_changeByWarmth cX0_changeByWarmth 2 none, Cond.methodLink RX0 70 yX0_dieBack, Cond.instanceMethod yX0_dieBack, Cond.selects RX0 yX0_dieBack yX0_dieBack, Cond.code yX0_dieBack cX0_dieBack 2 none, Cond.methodLink RX0 73 yX0_grow, Cond.instanceMethod yX0_grow, Cond.selects RX0 yX0_grow yX0_grow, Cond.code yX0_grow cX0_grow 4 none, Cond.methodLink RX0 76 yX0_rememberHeads, Cond.instanceMethod yX0_rememberHeads, Cond.selects RX0 yX0_rememberHeads yX0_rememberHeads, Cond.code yX0_rememberHeads cX0_rememberHeads 2 none, Cond.methodLink RX0 79 yX0_depthOf, Cond.methodLink RX0 82 yX0_headsBeside]
def wsL_law0_r19 : List Cond := [Cond.instanceMethod yX0_headsBeside, Cond.selects RX0 yX0_headsBeside yX0_headsBeside, Cond.code yX0_headsBeside cX0_headsBeside 5 (some .int), Cond.methodLink RX0 61 yX0_seed, Cond.instanceMethod yX0_seed, Cond.selects RX0 yX0_seed yX0_seed, Cond.code yX0_seed cX0_seed 3 none, Cond.methodLink RX0 64 yX3_stormIn, Cond.instanceMethod yX3_stormIn, Cond.selects RX3 yX3_stormIn yX3_stormIn, Cond.code yX3_stormIn cX3_stormIn 2 (some .int), Cond.methodLink RX0 67 yX0_breakByStorm, Cond.instanceMethod yX0_breakByStorm, Cond.selects RX0 yX0_breakByStorm yX0_breakByStorm, Cond.code yX0_breakByStorm cX0_breakByStorm 4 none, Cond.methodLink RX0 88 yX0_dropRubble, Cond.instanceMethod yX0_dropRubble, Cond.selects RX0 yX0_dropRubble yX0_dropRubble, Cond.code yX0_dropRubble cX0_dropRubble 3 none, Cond.methodLink RL 104 yX5_pass, Cond.instanceMethod yX5_pass, Cond.selects RX5 yX5_pass yX5_pass, Cond.code yX5_pass cX5_pass 4 (some .int), Cond.methodLink RX5 112 yX5_heads]
def wsL_law0_r20 : List Cond := [Cond.instanceMethod yX5_heads, Cond.selects RX5 yX5_heads yX5_heads, Cond.code yX5_heads cX5_heads 3 (some .int), Cond.methodLink RX5 116 yX5_monthOn, Cond.instanceMethod yX5_monthOn, Cond.selects RX5 yX5_monthOn yX5_monthOn, Cond.code yX5_monthOn cX5_monthOn 2 none, Cond.methodLink RX5 105 yX5_grow, Cond.instanceMethod yX5_grow, Cond.selects RX5 yX5_grow yX5_grow, Cond.code yX5_grow cX5_grow 4 none, Cond.methodLink RX5 99 arraycopyName, Cond.native arraycopyName, Cond.static arraycopyName, Cond.initialized "java/lang/System", Cond.methodLink RX5 96 yX5_headsBeside, Cond.instanceMethod yX5_headsBeside, Cond.selects RX5 yX5_headsBeside yX5_headsBeside, Cond.code yX5_headsBeside cX5_headsBeside 4 (some .int), Cond.methodLink RX5 109 yX5_blow, Cond.instanceMethod yX5_blow, Cond.selects RX5 yX5_blow yX5_blow, Cond.code yX5_blow cX5_blow 5 none, Cond.methodLink RL 105 yL_count]
def wsL_law0_r21 : List Cond := [Cond.static yL_count, Cond.codeWith yL_count cL_count 4 (some .int) [(0, 9, 12, 13)], Cond.methodLink RL 47 yX4_count, Cond.instanceMethod yX4_count, Cond.selects RX4 yX4_count yX4_count, Cond.code yX4_count cX4_count 2 (some .int), Cond.methodLink RX4 128 yX4_countAnswer, Cond.instanceMethod yX4_countAnswer, Cond.selects RX4 yX4_countAnswer yX4_countAnswer, Cond.code yX4_countAnswer cX4_countAnswer 2 (some .int), Cond.methodLink RX4 138 yX4_reefsOn, Cond.instanceMethod yX4_reefsOn, Cond.selects RX4 yX4_reefsOn yX4_reefsOn, Cond.code yX4_reefsOn cX4_reefsOn 4 (some .int), Cond.methodLink RX4 168 yX4_headsOfLargestReef, Cond.instanceMethod yX4_headsOfLargestReef, Cond.selects RX4 yX4_headsOfLargestReef yX4_headsOfLargestReef, Cond.code yX4_headsOfLargestReef cX4_headsOfLargestReef 3 (some .int), Cond.methodLink RX4 171 yX0_allCoral, Cond.instanceMethod yX0_allCoral, Cond.selects RX0 yX0_allCoral yX0_allCoral, Cond.code yX0_allCoral cX0_allCoral 3 (some .int), Cond.methodLink RX4 174 yX4_soundingsTaken, Cond.instanceMethod yX4_soundingsTaken]
def wsL_law0_r22 : List Cond := [Cond.selects RX4 yX4_soundingsTaken yX4_soundingsTaken, Cond.code yX4_soundingsTaken cX4_soundingsTaken 3 (some .int), Cond.methodLink RX4 177 yX4_soundingsTooDeep, Cond.instanceMethod yX4_soundingsTooDeep, Cond.selects RX4 yX4_soundingsTooDeep yX4_soundingsTooDeep, Cond.code yX4_soundingsTooDeep cX4_soundingsTooDeep 3 (some .int), Cond.methodLink RX4 180 yX4_cellsWithoutDepth, Cond.instanceMethod yX4_cellsWithoutDepth, Cond.selects RX4 yX4_cellsWithoutDepth yX4_cellsWithoutDepth, Cond.code yX4_cellsWithoutDepth cX4_cellsWithoutDepth 3 (some .int), Cond.methodLink RL 107 yX5_count, Cond.instanceMethod yX5_count, Cond.selects RX5 yX5_count yX5_count, Cond.code yX5_count cX5_count 2 (some .int), Cond.methodLink RX5 125 yX5_counted, Cond.instanceMethod yX5_counted, Cond.selects RX5 yX5_counted yX5_counted, Cond.code yX5_counted cX5_counted 7 (some .int), Cond.methodLink RX5 119 yX5_reefs, Cond.instanceMethod yX5_reefs, Cond.selects RX5 yX5_reefs yX5_reefs, Cond.code yX5_reefs cX5_reefs 3 (some .int), Cond.methodLink RX5 122 yX5_largest, Cond.instanceMethod yX5_largest]
def wsL_law0_r23 : List Cond := [Cond.selects RX5 yX5_largest yX5_largest, Cond.code yX5_largest cX5_largest 5 (some .int), Cond.methodLink RL 108 yL_closes, Cond.static yL_closes, Cond.codeWith yL_closes cL_closes 4 (some .int) [(0, 9, 12, 15)], Cond.methodLink RL 50 yX4_closes, Cond.instanceMethod yX4_closes, Cond.selects RX4 yX4_closes yX4_closes, Cond.code yX4_closes cX4_closes 3 (some .int), Cond.methodLink RX4 131 yX0_becomeLike, Cond.instanceMethod yX0_becomeLike, Cond.selects RX0 yX0_becomeLike yX0_becomeLike, Cond.code yX0_becomeLike cX0_becomeLike 2 none, Cond.methodLink RX0 28 arraycopyName, Cond.methodLink RL 110 yX5_closes, Cond.instanceMethod yX5_closes, Cond.selects RX5 yX5_closes yX5_closes, Cond.code yX5_closes cX5_closes 6 (some .int), Cond.methodLink RX5 128 ⟨"[I", "clone", "()Ljava/lang/Object;"⟩, Cond.sameMethod "[I" "java/lang/Object" "clone" "()Ljava/lang/Object;", Cond.native ⟨"java/lang/Object", "clone", "()Ljava/lang/Object;"⟩, Cond.instanceMethod ⟨"java/lang/Object", "clone", "()Ljava/lang/Object;"⟩, Cond.selects "[I" ⟨"[I", "clone", "()Ljava/lang/Object;"⟩ ⟨"java/lang/Object", "clone", "()Ljava/lang/Object;"⟩, Cond.classLink RX5 129 "[I"]
def wsL_law0_r24 : List Cond := [Cond.methodLink RX5 133 yX5_bringBack, Cond.instanceMethod yX5_bringBack, Cond.selects RX5 yX5_bringBack yX5_bringBack, Cond.code yX5_bringBack cX5_bringBack 4 none, Cond.methodLink RL 111 yL_foresee, Cond.static yL_foresee, Cond.codeWith yL_foresee cL_foresee 5 (some .int) [(0, 10, 13, 15), (0, 10, 17, 13)], Cond.methodLink RL 53 yX4_foresee, Cond.instanceMethod yX4_foresee, Cond.selects RX4 yX4_foresee yX4_foresee, Cond.code yX4_foresee cX4_foresee 4 (some .int), Cond.methodLink RL 113 yX5_foresee, Cond.instanceMethod yX5_foresee, Cond.selects RX5 yX5_foresee yX5_foresee, Cond.code yX5_foresee cX5_foresee 7 (some .int), Cond.methodLink RL 114 yX4_advise, Cond.instanceMethod yX4_advise, Cond.selects RX4 yX4_advise yX4_advise, Cond.code yX4_advise cX4_advise 6 (some .int), Cond.methodLink RL 117 yX5_advise, Cond.instanceMethod yX5_advise, Cond.selects RX5 yX5_advise yX5_advise, Cond.code yX5_advise cX5_advise 5 (some .int), Cond.methodLink RL 118 yX4_mean]
def wsL_law0_r25 : List Cond := [Cond.instanceMethod yX4_mean, Cond.selects RX4 yX4_mean yX4_mean, Cond.code yX4_mean cX4_mean 3 (some .double), Cond.constantDouble RX4 150 (4635400285215260672), Cond.methodLink RL 122 yX5_mean, Cond.instanceMethod yX5_mean, Cond.selects RX5 yX5_mean yX5_mean, Cond.code yX5_mean cX5_mean 3 (some .double), Cond.constantDouble RX5 137 (4635400285215260672), Cond.methodLink RL 123 yX4_digest, Cond.instanceMethod yX4_digest, Cond.selects RX4 yX4_digest yX4_digest, Cond.code yX4_digest cX4_digest 5 (some .long), Cond.constantLong RX4 152 (787), Cond.constantLong RX4 154 (31), Cond.methodLink RL 127 yX5_digest, Cond.instanceMethod yX5_digest, Cond.selects RX5 yX5_digest yX5_digest, Cond.code yX5_digest cX5_digest 5 (some .long), Cond.constantLong RX5 139 (787), Cond.constantLong RX5 141 (31)]
def wsL_law0 : List Cond := (wsL_law0_r1 ++ (wsL_law0_r2 ++ (wsL_law0_r3 ++ (wsL_law0_r4 ++ (wsL_law0_r5 ++ (wsL_law0_r6 ++ (wsL_law0_r7 ++ (wsL_law0_r8 ++ (wsL_law0_r9 ++ (wsL_law0_r10 ++ (wsL_law0_r11 ++ (wsL_law0_r12 ++ (wsL_law0_r13 ++ (wsL_law0_r14 ++ (wsL_law0_r15 ++ (wsL_law0_r16 ++ (wsL_law0_r17 ++ (wsL_law0_r18 ++ (wsL_law0_r19 ++ (wsL_law0_r20 ++ (wsL_law0_r21 ++ (wsL_law0_r22 ++ (wsL_law0_r23 ++ (wsL_law0_r24 ++ wsL_law0_r25)))))))))))))))))))))))) ++ wsX40 ++ wsX50 ++ wsX30 ++ wsX00 ++ wsX10 ++ wsX20 ++ ([] : List Cond)
def wsL_law : List Cond := wsL_law0 ++ (vx_atS RX4 160 "java/lang/IndexOutOfBoundsException" ["java/lang/RuntimeException", "java/lang/Exception"]).filter goodWord ++ (vx_atS RX4 167 "java/lang/IllegalArgumentException" ["java/lang/RuntimeException", "java/lang/Exception"]).filter goodWord
theorem mem_r {big : List Cond} (ws : List Cond) (ps : List Nat) (hp : ws = ps.filterMap (fun i => big[i]?)) : ∀ w ∈ ws, w ∈ big := by
  intro w hw
  rw [hp] at hw
  obtain ⟨i, -, hi⟩ := List.mem_filterMap.mp hw
  first | exact List.mem_of_getElem? hi | exact List.getElem?_mem hi
set_option maxRecDepth 20000 in
theorem in_wsL_law0_r1 : ∀ w ∈ wsL_law0_r1, w ∈ lw_tbl := mem_r wsL_law0_r1 [61, 62, 47, 587, 588, 53, 793, 63, 64, 65, 66, 67, 68, 69, 70, 48, 140, 86, 87, 50, 141, 142, 107, 108] (by decide +kernel)
set_option maxRecDepth 20000 in
theorem in_wsL_law0_r2 : ∀ w ∈ wsL_law0_r2, w ∈ lw_tbl := mem_r wsL_law0_r2 [51, 143, 121, 122, 52, 144, 85, 145, 71, 72, 73, 74, 78, 79, 75, 76, 49, 77, 88, 89, 90, 91, 93, 94] (by decide +kernel)
set_option maxRecDepth 20000 in
theorem in_wsL_law0_r3 : ∀ w ∈ wsL_law0_r3, w ∈ lw_tbl := mem_r wsL_law0_r3 [106, 95, 92, 109, 110, 111, 112, 114, 115, 113, 124, 125, 126, 127, 128, 129, 589, 590, 591, 592, 594, 595, 596, 597] (by decide +kernel)
set_option maxRecDepth 20000 in
theorem in_wsL_law0_r4 : ∀ w ∈ wsL_law0_r4, w ∈ lw_tbl := mem_r wsL_law0_r4 [598, 599, 601, 602, 603, 315, 316, 46, 317, 318, 319, 320, 321, 322, 323, 324, 325, 326, 327, 328, 329, 330, 57, 397] (by decide +kernel)
set_option maxRecDepth 20000 in
theorem in_wsL_law0_r5 : ∀ w ∈ wsL_law0_r5, w ∈ lw_tbl := mem_r wsL_law0_r5 [398, 399, 400, 58, 416, 417, 418, 419, 420, 421, 59, 422, 631, 632, 633, 634, 593, 645, 635, 636, 637, 638, 639, 640] (by decide +kernel)
set_option maxRecDepth 20000 in
theorem in_wsL_law0_r6 : ∀ w ∈ wsL_law0_r6, w ∈ lw_tbl := mem_r wsL_law0_r6 [641, 643, 28, 644, 627, 628, 629, 630, 423, 424, 425, 426, 427, 428, 429, 303, 304, 305, 306, 430, 431, 432, 433, 646] (by decide +kernel)
set_option maxRecDepth 20000 in
theorem in_wsL_law0_r7 : ∀ w ∈ wsL_law0_r7, w ∈ lw_tbl := mem_r wsL_law0_r7 [647, 648, 649, 434, 435, 436, 437, 438, 439, 440, 299, 300, 301, 302, 441, 442, 443, 444, 650, 651, 652, 653, 445, 446] (by decide +kernel)
set_option maxRecDepth 20000 in
theorem in_wsL_law0_r8 : ∀ w ∈ wsL_law0_r8, w ∈ lw_tbl := mem_r wsL_law0_r8 [447, 448, 449, 450, 451, 307, 308, 309, 310, 194, 195, 196, 197, 198, 188, 189, 274, 263, 264, 265, 452, 454, 18, 455] (by decide +kernel)
set_option maxRecDepth 20000 in
theorem in_wsL_law0_r9 : ∀ w ∈ wsL_law0_r9, w ∈ lw_tbl := mem_r wsL_law0_r9 [270, 272, 11, 273, 211, 212, 213, 214, 130, 215, 216, 217, 218, 219, 275, 276, 277, 278, 224, 226, 7, 227, 228, 230] (by decide +kernel)
set_option maxRecDepth 20000 in
theorem in_wsL_law0_r10 : ∀ w ∈ wsL_law0_r10, w ∈ lw_tbl := mem_r wsL_law0_r10 [8, 231, 233, 234, 654, 655, 656, 657, 658, 660, 29, 661, 662, 663, 665, 30, 666, 667, 669, 31, 670, 671, 673, 32] (by decide +kernel)
set_option maxRecDepth 20000 in
theorem in_wsL_law0_r11 : ∀ w ∈ wsL_law0_r11, w ∈ lw_tbl := mem_r wsL_law0_r11 [674, 675, 676, 677, 456, 457, 458, 459, 460, 461, 462, 175, 176, 177, 178, 179, 180, 181, 182, 96, 463, 464, 465, 466] (by decide +kernel)
set_option maxRecDepth 20000 in
theorem in_wsL_law0_r12 : ∀ w ∈ wsL_law0_r12, w ∈ lw_tbl := mem_r wsL_law0_r12 [678, 679, 680, 681, 600, 467, 468, 469, 470, 471, 472, 473, 311, 313, 16, 314, 183, 184, 185, 186, 171, 173, 2, 174] (by decide +kernel)
set_option maxRecDepth 20000 in
theorem in_wsL_law0_r13 : ∀ w ∈ wsL_law0_r13, w ∈ lw_tbl := mem_r wsL_law0_r13 [187, 682, 683, 684, 685, 686, 688, 33, 689, 474, 475, 476, 477, 478, 479, 480, 163, 165, 0, 166, 167, 169, 1, 170] (by decide +kernel)
set_option maxRecDepth 20000 in
theorem in_wsL_law0_r14 : ∀ w ∈ wsL_law0_r14, w ∈ lw_tbl := mem_r wsL_law0_r14 [190, 192, 3, 193, 203, 205, 5, 206, 207, 209, 6, 210, 220, 221, 222, 223, 235, 236, 237, 238, 690, 691, 692, 693] (by decide +kernel)
set_option maxRecDepth 20000 in
theorem in_wsL_law0_r15 : ∀ w ∈ wsL_law0_r15, w ∈ lw_tbl := mem_r wsL_law0_r15 [694, 696, 34, 697, 698, 700, 35, 701, 159, 160, 161, 162, 199, 201, 4, 202, 702, 703, 704, 705, 706, 708, 36, 709] (by decide +kernel)
set_option maxRecDepth 20000 in
theorem in_wsL_law0_r16 : ∀ w ∈ wsL_law0_r16, w ∈ lw_tbl := mem_r wsL_law0_r16 [481, 482, 483, 484, 485, 486, 487, 710, 711, 712, 713, 488, 489, 490, 491, 492, 493, 494, 495, 497, 19, 498, 499, 500] (by decide +kernel)
set_option maxRecDepth 20000 in
theorem in_wsL_law0_r17 : ∀ w ∈ wsL_law0_r17, w ∈ lw_tbl := mem_r wsL_law0_r17 [501, 502, 714, 715, 716, 717, 503, 504, 505, 506, 507, 508, 509, 258, 259, 260, 261, 262, 510, 511, 512, 513, 514, 515] (by decide +kernel)
set_option maxRecDepth 20000 in
theorem in_wsL_law0_r18 : ∀ w ∈ wsL_law0_r18, w ∈ lw_tbl := mem_r wsL_law0_r18 [516, 517, 518, 519, 59, 520, 521, 523, 20, 524, 525, 527, 21, 528, 529, 531, 22, 532, 533, 535, 23, 536, 537, 538] (by decide +kernel)
set_option maxRecDepth 20000 in
theorem in_wsL_law0_r19 : ∀ w ∈ wsL_law0_r19, w ∈ lw_tbl := mem_r wsL_law0_r19 [540, 24, 541, 543, 545, 25, 546, 547, 548, 549, 550, 551, 553, 26, 554, 555, 557, 27, 558, 718, 719, 720, 721, 722] (by decide +kernel)
set_option maxRecDepth 20000 in
theorem in_wsL_law0_r20 : ∀ w ∈ wsL_law0_r20, w ∈ lw_tbl := mem_r wsL_law0_r20 [724, 37, 725, 726, 728, 38, 729, 730, 732, 39, 733, 738, 579, 578, 60, 734, 736, 40, 737, 739, 741, 41, 742, 559] (by decide +kernel)
set_option maxRecDepth 20000 in
theorem in_wsL_law0_r21 : ∀ w ∈ wsL_law0_r21, w ∈ lw_tbl := mem_r wsL_law0_r21 [560, 561, 562, 563, 564, 565, 254, 256, 9, 257, 266, 268, 10, 269, 279, 281, 12, 282, 283, 284, 285, 286, 287, 289] (by decide +kernel)
set_option maxRecDepth 20000 in
theorem in_wsL_law0_r22 : ∀ w ∈ wsL_law0_r22, w ∈ lw_tbl := mem_r wsL_law0_r22 [13, 290, 291, 293, 14, 294, 295, 297, 15, 298, 743, 744, 745, 746, 747, 749, 42, 750, 751, 753, 43, 754, 755, 757] (by decide +kernel)
set_option maxRecDepth 20000 in
theorem in_wsL_law0_r23 : ∀ w ∈ wsL_law0_r23, w ∈ lw_tbl := mem_r wsL_law0_r23 [44, 758, 566, 567, 568, 569, 570, 571, 572, 573, 574, 575, 576, 577, 759, 760, 761, 762, 763, 764, 765, 766, 767, 769] (by decide +kernel)
set_option maxRecDepth 20000 in
theorem in_wsL_law0_r24 : ∀ w ∈ wsL_law0_r24, w ∈ lw_tbl := mem_r wsL_law0_r24 [770, 772, 45, 773, 580, 581, 582, 583, 584, 585, 586, 774, 775, 776, 777, 239, 240, 241, 242, 778, 779, 780, 781, 243] (by decide +kernel)
set_option maxRecDepth 20000 in
theorem in_wsL_law0_r25 : ∀ w ∈ wsL_law0_r25, w ∈ lw_tbl := mem_r wsL_law0_r25 [244, 245, 246, 247, 782, 783, 784, 785, 786, 248, 249, 250, 251, 252, 253, 787, 788, 789, 790, 791, 792] (by decide +kernel)
set_option maxRecDepth 20000 in
theorem in_wsX40 : ∀ w ∈ wsX40, w ∈ lw_tbl := by decide +kernel
set_option maxRecDepth 20000 in
theorem in_wsX50 : ∀ w ∈ wsX50, w ∈ lw_tbl := by decide +kernel
set_option maxRecDepth 20000 in
theorem in_wsX30 : ∀ w ∈ wsX30, w ∈ lw_tbl := by decide +kernel
set_option maxRecDepth 20000 in
theorem in_wsX00 : ∀ w ∈ wsX00, w ∈ lw_tbl := by decide +kernel
set_option maxRecDepth 20000 in
theorem in_wsX10 : ∀ w ∈ wsX10, w ∈ lw_tbl := by decide +kernel
set_option maxRecDepth 20000 in
theorem in_wsX20 : ∀ w ∈ wsX20, w ∈ lw_tbl := by decide +kernel
theorem in_app {a b : List Cond} (ha : ∀ w ∈ a, w ∈ lw_tbl) (hb : ∀ w ∈ b, w ∈ lw_tbl) : ∀ w ∈ a ++ b, w ∈ lw_tbl := fun w h => (List.mem_append.mp h).elim (ha w) (hb w)
theorem wsL_law_in0 : ∀ w ∈ wsL_law0, w ∈ lw_tbl := in_app (in_app (in_app (in_app (in_app (in_app (in_app (in_app in_wsL_law0_r1 (in_app in_wsL_law0_r2 (in_app in_wsL_law0_r3 (in_app in_wsL_law0_r4 (in_app in_wsL_law0_r5 (in_app in_wsL_law0_r6 (in_app in_wsL_law0_r7 (in_app in_wsL_law0_r8 (in_app in_wsL_law0_r9 (in_app in_wsL_law0_r10 (in_app in_wsL_law0_r11 (in_app in_wsL_law0_r12 (in_app in_wsL_law0_r13 (in_app in_wsL_law0_r14 (in_app in_wsL_law0_r15 (in_app in_wsL_law0_r16 (in_app in_wsL_law0_r17 (in_app in_wsL_law0_r18 (in_app in_wsL_law0_r19 (in_app in_wsL_law0_r20 (in_app in_wsL_law0_r21 (in_app in_wsL_law0_r22 (in_app in_wsL_law0_r23 (in_app in_wsL_law0_r24 in_wsL_law0_r25)))))))))))))))))))))))) in_wsX40) in_wsX50) in_wsX30) in_wsX00) in_wsX10) in_wsX20) (fun _ h => nomatch h)
theorem wsL_law_x0 : ∀ w ∈ (vx_atS RX4 160 "java/lang/IndexOutOfBoundsException" ["java/lang/RuntimeException", "java/lang/Exception"]).filter goodWord, w ∈ lw_tbl := by decide +kernel
theorem wsL_law_x1 : ∀ w ∈ (vx_atS RX4 167 "java/lang/IllegalArgumentException" ["java/lang/RuntimeException", "java/lang/Exception"]).filter goodWord, w ∈ lw_tbl := by decide +kernel
theorem wsL_law_in : ∀ w ∈ wsL_law, w ∈ lw_tbl := fun w h => (List.mem_append.mp h).elim (fun h => (List.mem_append.mp h).elim (fun h => wsL_law_in0 w h) (fun h => wsL_law_x0 w h)) (fun h => wsL_law_x1 w h)
theorem inlX0 : ∀ w ∈ wsX00, w ∈ wsL_law := fun _ h => List.mem_append_left _ (List.mem_append_left _ (List.mem_append_left _ (List.mem_append_left _ (List.mem_append_left _ (List.mem_append_right _ h)))))
theorem inX0 : ∀ w ∈ wsX00, w ∈ lw_tbl := fun w h => wsL_law_in w (inlX0 w h)
theorem inlX1 : ∀ w ∈ wsX10, w ∈ wsL_law := fun _ h => List.mem_append_left _ (List.mem_append_left _ (List.mem_append_left _ (List.mem_append_left _ (List.mem_append_right _ h))))
theorem inX1 : ∀ w ∈ wsX10, w ∈ lw_tbl := fun w h => wsL_law_in w (inlX1 w h)
theorem inlX2 : ∀ w ∈ wsX20, w ∈ wsL_law := fun _ h => List.mem_append_left _ (List.mem_append_left _ (List.mem_append_left _ (List.mem_append_right _ h)))
theorem inX2 : ∀ w ∈ wsX20, w ∈ lw_tbl := fun w h => wsL_law_in w (inlX2 w h)
theorem inlX3 : ∀ w ∈ wsX30, w ∈ wsL_law := fun _ h => List.mem_append_left _ (List.mem_append_left _ (List.mem_append_left _ (List.mem_append_left _ (List.mem_append_left _ (List.mem_append_left _ (List.mem_append_right _ h))))))
theorem inX3 : ∀ w ∈ wsX30, w ∈ lw_tbl := fun w h => wsL_law_in w (inlX3 w h)
theorem inlX4 : ∀ w ∈ wsX40, w ∈ wsL_law := fun _ h => List.mem_append_left _ (List.mem_append_left _ (List.mem_append_left _ (List.mem_append_left _ (List.mem_append_left _ (List.mem_append_left _ (List.mem_append_left _ (List.mem_append_left _ (List.mem_append_right _ h))))))))
theorem inX4 : ∀ w ∈ wsX40, w ∈ lw_tbl := fun w h => wsL_law_in w (inlX4 w h)
theorem inlX5 : ∀ w ∈ wsX50, w ∈ wsL_law := fun _ h => List.mem_append_left _ (List.mem_append_left _ (List.mem_append_left _ (List.mem_append_left _ (List.mem_append_left _ (List.mem_append_left _ (List.mem_append_left _ (List.mem_append_right _ h)))))))
theorem inX5 : ∀ w ∈ wsX50, w ∈ lw_tbl := fun w h => wsL_law_in w (inlX5 w h)
theorem inJx145de : ∀ w ∈ wsJx145de0, w ∈ lw_tbl := by decide +kernel
theorem inJx8e188 : ∀ w ∈ wsJx8e1880, w ∈ lw_tbl := by decide +kernel
theorem inJ9 : ∀ w ∈ wsJ90, w ∈ lw_tbl := by decide +kernel
theorem inJ0 : ∀ w ∈ wsJ00, w ∈ lw_tbl := by decide +kernel
theorem inJ10 : ∀ w ∈ wsJ100, w ∈ lw_tbl := by decide +kernel
theorem inJ7 : ∀ w ∈ wsJ70, w ∈ lw_tbl := by decide +kernel
set_option maxRecDepth 20000 in
theorem ggL_setGround_X4_setGround : GoodIn wsL_setGround wsX4_setGround := goodIn_ca (goodIn_ca (goodIn_r _ [7, 8, 9, 10, 6, 11, 12, 13, 14, 15, 16, 17, 18, 19, 20, 21, 22, 23, 24, 25, 26, 27, 28, 29, 30, 31, 32, 33, 34, 35, 36, 37, 38, 39, 40, 41, 42] (by decide +kernel) (by decide +kernel)) (goodIn_sub (fun _ h => List.mem_cons_of_mem _ (List.mem_append_left _ (List.mem_append_right _ h))) (by decide +kernel))) (goodIn_sub (fun _ h => List.mem_cons_of_mem _ (List.mem_append_right _ h)) (by decide +kernel))
set_option maxRecDepth 20000 in
theorem gL_setGround_X4_setGround : GoodIn wsL_setGround (wsV RL 7 RX4 yX4_setGround wsX4_setGround) := goodIn_app (goodIn_of _ (by decide +kernel)) ggL_setGround_X4_setGround
theorem dL_setGround_0 : decode cL_setGround 0 = .ok (.aload 4, 2) := by decide +kernel
theorem dL_setGround_2 : decode cL_setGround 2 = .ok (.iconst 0, 1) := by decide +kernel
theorem dL_setGround_3 : decode cL_setGround 3 = .ok (.aload_n 0, 1) := by decide +kernel
theorem dL_setGround_4 : decode cL_setGround 4 = .ok (.iload_n 1, 1) := by decide +kernel
theorem dL_setGround_5 : decode cL_setGround 5 = .ok (.iload_n 2, 1) := by decide +kernel
theorem dL_setGround_6 : decode cL_setGround 6 = .ok (.iload_n 3, 1) := by decide +kernel
theorem dL_setGround_7 : decode cL_setGround 7 = .ok (.invokevirtual 7, 3) := by decide +kernel
theorem dL_setGround_10 : decode cL_setGround 10 = .ok (.i2l, 1) := by decide +kernel
theorem dL_setGround_11 : decode cL_setGround 11 = .ok (.lastore, 1) := by decide +kernel
theorem dL_setGround_12 : decode cL_setGround 12 = .ok (.goto 11, 3) := by decide +kernel
theorem dL_setGround_15 : decode cL_setGround 15 = .ok (.astore 5, 2) := by decide +kernel
theorem dL_setGround_17 : decode cL_setGround 17 = .ok (.iconst 1, 1) := by decide +kernel
theorem dL_setGround_18 : decode cL_setGround 18 = .ok (.ireturn, 1) := by decide +kernel
theorem dL_setGround_19 : decode cL_setGround 19 = .ok (.astore 5, 2) := by decide +kernel
theorem dL_setGround_21 : decode cL_setGround 21 = .ok (.iconst 2, 1) := by decide +kernel
theorem dL_setGround_22 : decode cL_setGround 22 = .ok (.ireturn, 1) := by decide +kernel
theorem dL_setGround_23 : decode cL_setGround 23 = .ok (.iconst 0, 1) := by decide +kernel
theorem dL_setGround_24 : decode cL_setGround 24 = .ok (.ireturn, 1) := by decide +kernel
set_option maxRecDepth 20000 in
theorem ggL_plant_X4_plant : GoodIn wsL_plant wsX4_plant := goodIn_ca (goodIn_ca (goodIn_r _ [7, 8, 9, 10, 6, 11, 12, 13, 14, 15, 16, 17, 18, 19, 20, 21, 22, 23, 24, 25, 26, 27, 28, 29, 30, 31, 32, 33, 34, 35, 36, 37, 38, 39, 40, 41, 42] (by decide +kernel) (by decide +kernel)) (goodIn_sub (fun _ h => List.mem_cons_of_mem _ (List.mem_append_left _ (List.mem_append_right _ h))) (by decide +kernel))) (goodIn_sub (fun _ h => List.mem_cons_of_mem _ (List.mem_append_right _ h)) (by decide +kernel))
set_option maxRecDepth 20000 in
theorem gL_plant_X4_plant : GoodIn wsL_plant (wsV RL 17 RX4 yX4_plant wsX4_plant) := goodIn_app (goodIn_of _ (by decide +kernel)) ggL_plant_X4_plant
theorem dL_plant_0 : decode cL_plant 0 = .ok (.aload 4, 2) := by decide +kernel
theorem dL_plant_2 : decode cL_plant 2 = .ok (.iconst 0, 1) := by decide +kernel
theorem dL_plant_3 : decode cL_plant 3 = .ok (.aload_n 0, 1) := by decide +kernel
theorem dL_plant_4 : decode cL_plant 4 = .ok (.iload_n 1, 1) := by decide +kernel
theorem dL_plant_5 : decode cL_plant 5 = .ok (.iload_n 2, 1) := by decide +kernel
theorem dL_plant_6 : decode cL_plant 6 = .ok (.iload_n 3, 1) := by decide +kernel
theorem dL_plant_7 : decode cL_plant 7 = .ok (.invokevirtual 17, 3) := by decide +kernel
theorem dL_plant_10 : decode cL_plant 10 = .ok (.i2l, 1) := by decide +kernel
theorem dL_plant_11 : decode cL_plant 11 = .ok (.lastore, 1) := by decide +kernel
theorem dL_plant_12 : decode cL_plant 12 = .ok (.goto 11, 3) := by decide +kernel
theorem dL_plant_15 : decode cL_plant 15 = .ok (.astore 5, 2) := by decide +kernel
theorem dL_plant_17 : decode cL_plant 17 = .ok (.iconst 1, 1) := by decide +kernel
theorem dL_plant_18 : decode cL_plant 18 = .ok (.ireturn, 1) := by decide +kernel
theorem dL_plant_19 : decode cL_plant 19 = .ok (.astore 5, 2) := by decide +kernel
theorem dL_plant_21 : decode cL_plant 21 = .ok (.iconst 2, 1) := by decide +kernel
theorem dL_plant_22 : decode cL_plant 22 = .ok (.ireturn, 1) := by decide +kernel
theorem dL_plant_23 : decode cL_plant 23 = .ok (.iconst 0, 1) := by decide +kernel
theorem dL_plant_24 : decode cL_plant 24 = .ok (.ireturn, 1) := by decide +kernel
set_option maxRecDepth 20000 in
theorem ggL_setMonth_X4_setMonth : GoodIn wsL_setMonth wsX4_setMonth := goodIn_ca (goodIn_ca (goodIn_r _ [7, 8, 9, 10, 6, 11, 12, 13, 14, 15, 16, 17, 18, 19, 20, 21, 22, 23, 24, 25, 26, 27, 28, 29, 30, 31, 32, 33, 34, 35, 36, 37] (by decide +kernel) (by decide +kernel)) (goodIn_sub (fun _ h => List.mem_cons_of_mem _ (List.mem_append_left _ (List.mem_append_right _ h))) (by decide +kernel))) (goodIn_sub (fun _ h => List.mem_cons_of_mem _ (List.mem_append_right _ h)) (by decide +kernel))
set_option maxRecDepth 20000 in
theorem gL_setMonth_X4_setMonth : GoodIn wsL_setMonth (wsV RL 20 RX4 yX4_setMonth wsX4_setMonth) := goodIn_app (goodIn_of _ (by decide +kernel)) ggL_setMonth_X4_setMonth
theorem dL_setMonth_0 : decode cL_setMonth 0 = .ok (.aload 4, 2) := by decide +kernel
theorem dL_setMonth_2 : decode cL_setMonth 2 = .ok (.iconst 0, 1) := by decide +kernel
theorem dL_setMonth_3 : decode cL_setMonth 3 = .ok (.aload_n 0, 1) := by decide +kernel
theorem dL_setMonth_4 : decode cL_setMonth 4 = .ok (.iload_n 1, 1) := by decide +kernel
theorem dL_setMonth_5 : decode cL_setMonth 5 = .ok (.iload_n 2, 1) := by decide +kernel
theorem dL_setMonth_6 : decode cL_setMonth 6 = .ok (.iload_n 3, 1) := by decide +kernel
theorem dL_setMonth_7 : decode cL_setMonth 7 = .ok (.invokevirtual 20, 3) := by decide +kernel
theorem dL_setMonth_10 : decode cL_setMonth 10 = .ok (.i2l, 1) := by decide +kernel
theorem dL_setMonth_11 : decode cL_setMonth 11 = .ok (.lastore, 1) := by decide +kernel
theorem dL_setMonth_12 : decode cL_setMonth 12 = .ok (.goto 11, 3) := by decide +kernel
theorem dL_setMonth_15 : decode cL_setMonth 15 = .ok (.astore 5, 2) := by decide +kernel
theorem dL_setMonth_17 : decode cL_setMonth 17 = .ok (.iconst 1, 1) := by decide +kernel
theorem dL_setMonth_18 : decode cL_setMonth 18 = .ok (.ireturn, 1) := by decide +kernel
theorem dL_setMonth_19 : decode cL_setMonth 19 = .ok (.astore 5, 2) := by decide +kernel
theorem dL_setMonth_21 : decode cL_setMonth 21 = .ok (.iconst 2, 1) := by decide +kernel
theorem dL_setMonth_22 : decode cL_setMonth 22 = .ok (.ireturn, 1) := by decide +kernel
theorem dL_setMonth_23 : decode cL_setMonth 23 = .ok (.iconst 0, 1) := by decide +kernel
theorem dL_setMonth_24 : decode cL_setMonth 24 = .ok (.ireturn, 1) := by decide +kernel
set_option maxRecDepth 20000 in
theorem ggL_cell_X4_cell : GoodIn wsL_cell wsX4_cell := goodIn_ca (goodIn_r _ [6, 7, 8, 9, 5, 10, 11, 12, 13, 14, 15, 16, 17, 18, 19, 20, 21, 22, 23, 24, 25, 26, 27, 28, 29, 30, 31, 32, 33, 34, 35, 36, 37, 38, 39, 40, 41, 42, 43, 44, 45, 46, 47, 48, 49, 50, 51, 52, 53, 54, 55, 56, 57, 58, 59, 60, 61, 62, 63, 64, 65, 66, 67, 68, 69, 70, 71, 72, 73, 74, 75, 76, 77, 78, 79, 80, 81, 82, 83, 84, 85, 86, 87, 88, 89, 90, 91, 92] (by decide +kernel) (by decide +kernel)) (goodIn_sub (fun _ h => List.mem_cons_of_mem _ (List.mem_append_right _ h)) (by decide +kernel))
set_option maxRecDepth 20000 in
theorem gL_cell_X4_cell : GoodIn wsL_cell (wsV RL 23 RX4 yX4_cell wsX4_cell) := goodIn_app (goodIn_of _ (by decide +kernel)) ggL_cell_X4_cell
theorem dL_cell_0 : decode cL_cell 0 = .ok (.aload 4, 2) := by decide +kernel
theorem dL_cell_2 : decode cL_cell 2 = .ok (.iconst 0, 1) := by decide +kernel
theorem dL_cell_3 : decode cL_cell 3 = .ok (.aload_n 0, 1) := by decide +kernel
theorem dL_cell_4 : decode cL_cell 4 = .ok (.iload_n 1, 1) := by decide +kernel
theorem dL_cell_5 : decode cL_cell 5 = .ok (.iload_n 2, 1) := by decide +kernel
theorem dL_cell_6 : decode cL_cell 6 = .ok (.iload_n 3, 1) := by decide +kernel
theorem dL_cell_7 : decode cL_cell 7 = .ok (.invokevirtual 23, 3) := by decide +kernel
theorem dL_cell_10 : decode cL_cell 10 = .ok (.i2l, 1) := by decide +kernel
theorem dL_cell_11 : decode cL_cell 11 = .ok (.lastore, 1) := by decide +kernel
theorem dL_cell_12 : decode cL_cell 12 = .ok (.goto 7, 3) := by decide +kernel
theorem dL_cell_15 : decode cL_cell 15 = .ok (.astore 5, 2) := by decide +kernel
theorem dL_cell_17 : decode cL_cell 17 = .ok (.iconst 1, 1) := by decide +kernel
theorem dL_cell_18 : decode cL_cell 18 = .ok (.ireturn, 1) := by decide +kernel
theorem dL_cell_19 : decode cL_cell 19 = .ok (.iconst 0, 1) := by decide +kernel
theorem dL_cell_20 : decode cL_cell 20 = .ok (.ireturn, 1) := by decide +kernel
set_option maxRecDepth 20000 in
theorem ggL_sound_X4_sound : GoodIn wsL_sound wsX4_sound := goodIn_ca (goodIn_r _ [6, 7, 8, 9, 10, 5, 11, 12, 13, 14, 15, 16, 17, 18, 19, 20, 21, 22, 23, 24, 25, 26, 27, 28, 29, 30, 31, 32, 33, 34, 35, 36, 37, 38, 39, 40, 41, 42, 43, 44, 45, 46, 47, 48, 49, 50, 51, 52, 53, 54, 55] (by decide +kernel) (by decide +kernel)) (goodIn_sub (fun _ h => List.mem_cons_of_mem _ (List.mem_append_right _ h)) (by decide +kernel))
set_option maxRecDepth 20000 in
theorem gL_sound_X4_sound : GoodIn wsL_sound (wsV RL 26 RX4 yX4_sound wsX4_sound) := goodIn_app (goodIn_of _ (by decide +kernel)) ggL_sound_X4_sound
theorem dL_sound_0 : decode cL_sound 0 = .ok (.aload_n 3, 1) := by decide +kernel
theorem dL_sound_1 : decode cL_sound 1 = .ok (.iconst 0, 1) := by decide +kernel
theorem dL_sound_2 : decode cL_sound 2 = .ok (.aload_n 0, 1) := by decide +kernel
theorem dL_sound_3 : decode cL_sound 3 = .ok (.iload_n 1, 1) := by decide +kernel
theorem dL_sound_4 : decode cL_sound 4 = .ok (.iload_n 2, 1) := by decide +kernel
theorem dL_sound_5 : decode cL_sound 5 = .ok (.invokevirtual 26, 3) := by decide +kernel
theorem dL_sound_8 : decode cL_sound 8 = .ok (.i2l, 1) := by decide +kernel
theorem dL_sound_9 : decode cL_sound 9 = .ok (.lastore, 1) := by decide +kernel
theorem dL_sound_10 : decode cL_sound 10 = .ok (.goto 7, 3) := by decide +kernel
theorem dL_sound_13 : decode cL_sound 13 = .ok (.astore 4, 2) := by decide +kernel
theorem dL_sound_15 : decode cL_sound 15 = .ok (.iconst 1, 1) := by decide +kernel
theorem dL_sound_16 : decode cL_sound 16 = .ok (.ireturn, 1) := by decide +kernel
theorem dL_sound_17 : decode cL_sound 17 = .ok (.iconst 0, 1) := by decide +kernel
theorem dL_sound_18 : decode cL_sound 18 = .ok (.ireturn, 1) := by decide +kernel
set_option maxRecDepth 20000 in
theorem ggL_chart_X4_chart : GoodIn wsL_chart wsX4_chart := goodIn_ca (goodIn_r _ [6, 7, 8, 5, 9, 10, 11, 12, 13, 14, 15, 16, 17, 18, 19, 20, 21, 22, 23, 24, 25, 26, 27, 28, 29, 30, 31, 32, 33, 34, 35, 36, 37, 38, 39, 40, 41, 42, 43, 44, 45, 46, 47, 48, 49, 50, 51, 52, 53, 54, 55, 56, 57] (by decide +kernel) (by decide +kernel)) (goodIn_sub (fun _ h => List.mem_cons_of_mem _ (List.mem_append_right _ h)) (by decide +kernel))
set_option maxRecDepth 20000 in
theorem gL_chart_X4_chart : GoodIn wsL_chart (wsV RL 30 RX4 yX4_chart wsX4_chart) := goodIn_app (goodIn_of _ (by decide +kernel)) ggL_chart_X4_chart
theorem dL_chart_0 : decode cL_chart 0 = .ok (.aload 4, 2) := by decide +kernel
theorem dL_chart_2 : decode cL_chart 2 = .ok (.iconst 0, 1) := by decide +kernel
theorem dL_chart_3 : decode cL_chart 3 = .ok (.aload_n 0, 1) := by decide +kernel
theorem dL_chart_4 : decode cL_chart 4 = .ok (.iload_n 1, 1) := by decide +kernel
theorem dL_chart_5 : decode cL_chart 5 = .ok (.iload_n 2, 1) := by decide +kernel
theorem dL_chart_6 : decode cL_chart 6 = .ok (.iload_n 3, 1) := by decide +kernel
theorem dL_chart_7 : decode cL_chart 7 = .ok (.invokevirtual 30, 3) := by decide +kernel
theorem dL_chart_10 : decode cL_chart 10 = .ok (.i2l, 1) := by decide +kernel
theorem dL_chart_11 : decode cL_chart 11 = .ok (.lastore, 1) := by decide +kernel
theorem dL_chart_12 : decode cL_chart 12 = .ok (.goto 7, 3) := by decide +kernel
theorem dL_chart_15 : decode cL_chart 15 = .ok (.astore 5, 2) := by decide +kernel
theorem dL_chart_17 : decode cL_chart 17 = .ok (.iconst 1, 1) := by decide +kernel
theorem dL_chart_18 : decode cL_chart 18 = .ok (.ireturn, 1) := by decide +kernel
theorem dL_chart_19 : decode cL_chart 19 = .ok (.iconst 0, 1) := by decide +kernel
theorem dL_chart_20 : decode cL_chart 20 = .ok (.ireturn, 1) := by decide +kernel
set_option maxRecDepth 20000 in
theorem ggL_way_X4_way : GoodIn wsL_way wsX4_way := goodIn_ca (goodIn_r _ [6, 7, 8, 9, 5, 10, 11, 12, 13, 14, 15, 16, 17, 18, 19, 20, 21, 22, 23, 24, 25, 26, 27, 28, 29, 30, 31, 32, 33, 34, 35, 36, 37, 38, 39, 40, 41, 42, 43, 44, 45, 46, 47, 48, 49, 50, 51, 52, 53, 54, 55, 56, 57, 58, 59, 60, 61, 62, 63, 64, 65, 66, 67, 68, 69, 70, 71, 72, 73, 74, 75, 76, 77, 78, 79, 80, 81, 82, 83, 84, 85, 86, 87, 88, 89, 90, 91, 92, 93, 94, 95, 96, 97, 98, 99, 100, 101, 102, 103, 104, 105, 106, 107, 108, 109, 110, 111, 112, 113, 114, 115, 116, 117, 118] (by decide +kernel) (by decide +kernel)) (goodIn_sub (fun _ h => List.mem_cons_of_mem _ (List.mem_append_right _ h)) (by decide +kernel))
set_option maxRecDepth 20000 in
theorem gL_way_X4_way : GoodIn wsL_way (wsV RL 33 RX4 yX4_way wsX4_way) := goodIn_app (goodIn_of _ (by decide +kernel)) ggL_way_X4_way
theorem dL_way_0 : decode cL_way 0 = .ok (.aload_n 3, 1) := by decide +kernel
theorem dL_way_1 : decode cL_way 1 = .ok (.iconst 0, 1) := by decide +kernel
theorem dL_way_2 : decode cL_way 2 = .ok (.aload_n 0, 1) := by decide +kernel
theorem dL_way_3 : decode cL_way 3 = .ok (.iload_n 1, 1) := by decide +kernel
theorem dL_way_4 : decode cL_way 4 = .ok (.iload_n 2, 1) := by decide +kernel
theorem dL_way_5 : decode cL_way 5 = .ok (.invokevirtual 33, 3) := by decide +kernel
theorem dL_way_8 : decode cL_way 8 = .ok (.i2l, 1) := by decide +kernel
theorem dL_way_9 : decode cL_way 9 = .ok (.lastore, 1) := by decide +kernel
theorem dL_way_10 : decode cL_way 10 = .ok (.goto 7, 3) := by decide +kernel
theorem dL_way_13 : decode cL_way 13 = .ok (.astore 4, 2) := by decide +kernel
theorem dL_way_15 : decode cL_way 15 = .ok (.iconst 1, 1) := by decide +kernel
theorem dL_way_16 : decode cL_way 16 = .ok (.ireturn, 1) := by decide +kernel
theorem dL_way_17 : decode cL_way 17 = .ok (.iconst 0, 1) := by decide +kernel
theorem dL_way_18 : decode cL_way 18 = .ok (.ireturn, 1) := by decide +kernel
set_option maxRecDepth 20000 in
theorem ggL_harbours_X4_harbours : GoodIn wsL_harbours wsX4_harbours := goodIn_ca (goodIn_r _ [6, 7, 8, 9, 5, 10, 11, 12, 13, 14, 15, 16, 17, 18, 19, 20, 21, 22, 23, 24, 25, 26, 27, 28, 29, 30, 31, 32, 33, 34, 35, 36, 37, 38, 39, 40, 41, 42, 43, 44, 45, 46, 47, 48, 49, 50, 51, 52, 53, 54, 55, 56, 57, 58, 59, 60, 61, 62, 63, 64, 65, 66, 67, 68, 69, 70, 71, 72, 73, 74, 75, 76, 77, 78, 79, 80, 81, 82, 83, 84, 85, 86, 87, 88, 89, 90, 91, 92, 93, 94, 95, 96, 97, 98, 99, 100, 101, 102, 103, 104, 105, 106, 107, 108, 109, 110, 111, 112, 113, 114] (by decide +kernel) (by decide +kernel)) (goodIn_sub (fun _ h => List.mem_cons_of_mem _ (List.mem_append_right _ h)) (by decide +kernel))
set_option maxRecDepth 20000 in
theorem gL_harbours_X4_harbours : GoodIn wsL_harbours (wsV RL 37 RX4 yX4_harbours wsX4_harbours) := goodIn_app (goodIn_of _ (by decide +kernel)) ggL_harbours_X4_harbours
theorem dL_harbours_0 : decode cL_harbours 0 = .ok (.aload_n 2, 1) := by decide +kernel
theorem dL_harbours_1 : decode cL_harbours 1 = .ok (.iconst 0, 1) := by decide +kernel
theorem dL_harbours_2 : decode cL_harbours 2 = .ok (.aload_n 0, 1) := by decide +kernel
theorem dL_harbours_3 : decode cL_harbours 3 = .ok (.iload_n 1, 1) := by decide +kernel
theorem dL_harbours_4 : decode cL_harbours 4 = .ok (.invokevirtual 37, 3) := by decide +kernel
theorem dL_harbours_7 : decode cL_harbours 7 = .ok (.i2l, 1) := by decide +kernel
theorem dL_harbours_8 : decode cL_harbours 8 = .ok (.lastore, 1) := by decide +kernel
theorem dL_harbours_9 : decode cL_harbours 9 = .ok (.goto 6, 3) := by decide +kernel
theorem dL_harbours_12 : decode cL_harbours 12 = .ok (.astore_n 3, 1) := by decide +kernel
theorem dL_harbours_13 : decode cL_harbours 13 = .ok (.iconst 1, 1) := by decide +kernel
theorem dL_harbours_14 : decode cL_harbours 14 = .ok (.ireturn, 1) := by decide +kernel
theorem dL_harbours_15 : decode cL_harbours 15 = .ok (.iconst 0, 1) := by decide +kernel
theorem dL_harbours_16 : decode cL_harbours 16 = .ok (.ireturn, 1) := by decide +kernel
set_option maxRecDepth 20000 in
theorem ggL_pilot_X4_pilot : GoodIn wsL_pilot wsX4_pilot := goodIn_ca (goodIn_r _ [6, 7, 8, 5, 9, 10, 11, 12, 13, 14, 15, 16, 17, 18, 19, 20, 21, 22, 23, 24, 25, 26, 27, 28, 29, 30, 31, 32, 33, 34, 35, 36, 37, 38, 39, 40, 41, 42, 43, 44, 45, 46, 47, 48, 49, 50, 51, 52, 53, 54, 55, 56, 57, 58, 59, 60, 61, 62, 63, 64, 65, 66, 67, 68, 69, 70, 71, 72, 73, 74, 75, 76, 77, 78, 79, 80, 81, 82, 83, 84, 85, 86, 87, 88, 89, 90, 91, 92, 93, 94, 95, 96, 97, 98, 99, 100, 101, 102, 103, 104, 105, 106, 107, 108, 109, 110, 111, 112, 113, 114, 115, 116, 117, 118, 119, 120, 121, 122, 123, 124, 125, 126] (by decide +kernel) (by decide +kernel)) (goodIn_sub (fun _ h => List.mem_cons_of_mem _ (List.mem_append_right _ h)) (by decide +kernel))
set_option maxRecDepth 20000 in
theorem gL_pilot_X4_pilot : GoodIn wsL_pilot (wsV RL 41 RX4 yX4_pilot wsX4_pilot) := goodIn_app (goodIn_of _ (by decide +kernel)) ggL_pilot_X4_pilot
theorem dL_pilot_0 : decode cL_pilot 0 = .ok (.aload_n 2, 1) := by decide +kernel
theorem dL_pilot_1 : decode cL_pilot 1 = .ok (.iconst 0, 1) := by decide +kernel
theorem dL_pilot_2 : decode cL_pilot 2 = .ok (.aload_n 0, 1) := by decide +kernel
theorem dL_pilot_3 : decode cL_pilot 3 = .ok (.iload_n 1, 1) := by decide +kernel
theorem dL_pilot_4 : decode cL_pilot 4 = .ok (.invokevirtual 41, 3) := by decide +kernel
theorem dL_pilot_7 : decode cL_pilot 7 = .ok (.i2l, 1) := by decide +kernel
theorem dL_pilot_8 : decode cL_pilot 8 = .ok (.lastore, 1) := by decide +kernel
theorem dL_pilot_9 : decode cL_pilot 9 = .ok (.goto 6, 3) := by decide +kernel
theorem dL_pilot_12 : decode cL_pilot 12 = .ok (.astore_n 3, 1) := by decide +kernel
theorem dL_pilot_13 : decode cL_pilot 13 = .ok (.iconst 1, 1) := by decide +kernel
theorem dL_pilot_14 : decode cL_pilot 14 = .ok (.ireturn, 1) := by decide +kernel
theorem dL_pilot_15 : decode cL_pilot 15 = .ok (.iconst 0, 1) := by decide +kernel
theorem dL_pilot_16 : decode cL_pilot 16 = .ok (.ireturn, 1) := by decide +kernel
set_option maxRecDepth 20000 in
theorem ggL_pass_X4_pass : GoodIn wsL_pass wsX4_pass := goodIn_ca (goodIn_r _ [6, 7, 8, 9, 10, 5, 11, 12, 13, 14, 15, 16, 17, 18, 19, 20, 21, 22, 23, 24, 25, 26, 27, 28, 29, 30, 31, 32, 33, 34, 35, 36, 37, 38, 39, 40, 41, 42, 43, 44, 45, 46, 47, 48, 49, 50, 51, 52, 53, 54, 55, 56, 57, 58, 59, 60, 61, 62, 63, 64, 65, 66, 67, 68, 69, 70, 71, 72, 73, 74, 75, 76, 77, 78, 79, 80, 81, 82, 83, 84, 85, 86, 87, 88, 89, 90, 91, 92, 93, 94, 95, 96, 97, 98, 99, 100, 101, 102] (by decide +kernel) (by decide +kernel)) (goodIn_sub (fun _ h => List.mem_cons_of_mem _ (List.mem_append_right _ h)) (by decide +kernel))
set_option maxRecDepth 20000 in
theorem gL_pass_X4_pass : GoodIn wsL_pass (wsV RL 44 RX4 yX4_pass wsX4_pass) := goodIn_app (goodIn_of _ (by decide +kernel)) ggL_pass_X4_pass
theorem dL_pass_0 : decode cL_pass 0 = .ok (.aload_n 2, 1) := by decide +kernel
theorem dL_pass_1 : decode cL_pass 1 = .ok (.iconst 0, 1) := by decide +kernel
theorem dL_pass_2 : decode cL_pass 2 = .ok (.aload_n 0, 1) := by decide +kernel
theorem dL_pass_3 : decode cL_pass 3 = .ok (.iload_n 1, 1) := by decide +kernel
theorem dL_pass_4 : decode cL_pass 4 = .ok (.invokevirtual 44, 3) := by decide +kernel
theorem dL_pass_7 : decode cL_pass 7 = .ok (.i2l, 1) := by decide +kernel
theorem dL_pass_8 : decode cL_pass 8 = .ok (.lastore, 1) := by decide +kernel
theorem dL_pass_9 : decode cL_pass 9 = .ok (.goto 6, 3) := by decide +kernel
theorem dL_pass_12 : decode cL_pass 12 = .ok (.astore_n 3, 1) := by decide +kernel
theorem dL_pass_13 : decode cL_pass 13 = .ok (.iconst 1, 1) := by decide +kernel
theorem dL_pass_14 : decode cL_pass 14 = .ok (.ireturn, 1) := by decide +kernel
theorem dL_pass_15 : decode cL_pass 15 = .ok (.iconst 0, 1) := by decide +kernel
theorem dL_pass_16 : decode cL_pass 16 = .ok (.ireturn, 1) := by decide +kernel
set_option maxRecDepth 20000 in
theorem ggL_count_X4_count : GoodIn wsL_count wsX4_count := goodIn_ca (goodIn_r _ [6, 7, 8, 5, 9, 10, 11, 12, 13, 14, 15, 16, 17, 18, 19, 20, 21, 22, 23, 24, 25, 26, 27, 28, 29, 30, 31, 32, 33, 34, 35, 36, 37, 38, 39, 40, 41, 42, 43, 44, 45, 46, 47, 48, 49, 50, 51, 52, 53, 54, 55, 56, 57, 58, 59, 60, 61, 62, 63, 64, 65, 66, 67, 68, 69, 70, 71, 72, 73, 74, 75, 76, 77, 78, 79, 80, 81, 82, 83, 84, 85, 86, 87, 88, 89, 90, 91, 92, 93, 94, 95, 96, 97, 98, 99, 100, 101, 102, 103, 104, 105, 106, 107, 108, 109, 110, 111, 112, 113, 114, 115, 116, 117, 118, 119, 120, 121, 122, 123, 124, 125] (by decide +kernel) (by decide +kernel)) (goodIn_sub (fun _ h => List.mem_cons_of_mem _ (List.mem_append_right _ h)) (by decide +kernel))
set_option maxRecDepth 20000 in
theorem gL_count_X4_count : GoodIn wsL_count (wsV RL 47 RX4 yX4_count wsX4_count) := goodIn_app (goodIn_of _ (by decide +kernel)) ggL_count_X4_count
theorem dL_count_0 : decode cL_count 0 = .ok (.aload_n 2, 1) := by decide +kernel
theorem dL_count_1 : decode cL_count 1 = .ok (.iconst 0, 1) := by decide +kernel
theorem dL_count_2 : decode cL_count 2 = .ok (.aload_n 0, 1) := by decide +kernel
theorem dL_count_3 : decode cL_count 3 = .ok (.iload_n 1, 1) := by decide +kernel
theorem dL_count_4 : decode cL_count 4 = .ok (.invokevirtual 47, 3) := by decide +kernel
theorem dL_count_7 : decode cL_count 7 = .ok (.i2l, 1) := by decide +kernel
theorem dL_count_8 : decode cL_count 8 = .ok (.lastore, 1) := by decide +kernel
theorem dL_count_9 : decode cL_count 9 = .ok (.goto 6, 3) := by decide +kernel
theorem dL_count_12 : decode cL_count 12 = .ok (.astore_n 3, 1) := by decide +kernel
theorem dL_count_13 : decode cL_count 13 = .ok (.iconst 1, 1) := by decide +kernel
theorem dL_count_14 : decode cL_count 14 = .ok (.ireturn, 1) := by decide +kernel
theorem dL_count_15 : decode cL_count 15 = .ok (.iconst 0, 1) := by decide +kernel
theorem dL_count_16 : decode cL_count 16 = .ok (.ireturn, 1) := by decide +kernel
set_option maxRecDepth 20000 in
theorem ggL_closes_X4_closes : GoodIn wsL_closes wsX4_closes := goodIn_ca (goodIn_r _ [6, 7, 8, 9, 10, 11, 5, 12, 13, 14, 15, 16, 17, 18, 19, 20, 21, 22, 23, 24, 25, 26, 27, 28, 29, 30, 31, 32, 33, 34, 35, 36, 37, 38, 39, 40, 41, 42, 43, 44, 45, 46, 47, 48, 49, 50, 51, 52, 53, 54, 55, 56, 57, 58, 59, 60, 61, 62, 63, 64, 65, 66, 67, 68, 69, 70, 71, 72, 73, 74, 75, 76, 77, 78, 79, 80, 81, 82, 83, 84, 85, 86, 87, 88, 89, 90, 91, 92, 93, 94, 95, 96, 97, 98, 99, 100, 101, 102, 103, 104, 105, 106, 107, 108, 109, 110, 111, 112, 113, 114, 115, 116, 117, 118, 119, 120, 121, 122, 123, 124, 125, 126, 127, 128, 129, 130, 131, 132, 133, 134, 135, 136, 137, 138, 139, 140, 141, 142, 143, 144, 145, 146, 147, 148, 149, 150, 151, 152, 153, 154, 155, 156, 157, 158, 159] (by decide +kernel) (by decide +kernel)) (goodIn_sub (fun _ h => List.mem_cons_of_mem _ (List.mem_append_right _ h)) (by decide +kernel))
set_option maxRecDepth 20000 in
theorem gL_closes_X4_closes : GoodIn wsL_closes (wsV RL 50 RX4 yX4_closes wsX4_closes) := goodIn_app (goodIn_of _ (by decide +kernel)) ggL_closes_X4_closes
theorem dL_closes_0 : decode cL_closes 0 = .ok (.aload_n 2, 1) := by decide +kernel
theorem dL_closes_1 : decode cL_closes 1 = .ok (.iconst 0, 1) := by decide +kernel
theorem dL_closes_2 : decode cL_closes 2 = .ok (.aload_n 0, 1) := by decide +kernel
theorem dL_closes_3 : decode cL_closes 3 = .ok (.iload_n 1, 1) := by decide +kernel
theorem dL_closes_4 : decode cL_closes 4 = .ok (.invokevirtual 50, 3) := by decide +kernel
theorem dL_closes_7 : decode cL_closes 7 = .ok (.i2l, 1) := by decide +kernel
theorem dL_closes_8 : decode cL_closes 8 = .ok (.lastore, 1) := by decide +kernel
theorem dL_closes_9 : decode cL_closes 9 = .ok (.goto 6, 3) := by decide +kernel
theorem dL_closes_12 : decode cL_closes 12 = .ok (.astore_n 3, 1) := by decide +kernel
theorem dL_closes_13 : decode cL_closes 13 = .ok (.iconst 1, 1) := by decide +kernel
theorem dL_closes_14 : decode cL_closes 14 = .ok (.ireturn, 1) := by decide +kernel
theorem dL_closes_15 : decode cL_closes 15 = .ok (.iconst 0, 1) := by decide +kernel
theorem dL_closes_16 : decode cL_closes 16 = .ok (.ireturn, 1) := by decide +kernel
set_option maxRecDepth 20000 in
theorem ggL_foresee_X4_foresee : GoodIn wsL_foresee wsX4_foresee := goodIn_ca (goodIn_ca (goodIn_r _ [7, 8, 9, 10, 11, 12, 6, 13, 14, 15, 16, 17, 18, 19, 20, 21, 22, 23, 24, 25, 26, 27, 28, 29, 30, 31, 32, 33, 34, 35, 36, 37, 38, 39, 40, 41, 42, 43, 44, 45, 46, 47, 48, 49, 50, 51, 52, 53, 54, 55, 56, 57, 58, 59, 60, 61, 62, 63, 64, 65, 66, 67, 68, 69, 70, 71, 72, 73, 74, 75, 76, 77, 78, 79, 80, 81, 82, 83, 84, 85, 86, 87, 88, 89, 90, 91, 92, 93, 94, 95, 96, 97, 98, 99, 100, 101, 102, 103, 104, 105, 106, 107, 108, 109, 110, 111, 112, 113, 114, 115, 116, 117, 118, 119, 120, 121, 122, 123, 124, 125, 126, 127, 128, 129, 130, 131, 132, 133, 134, 135, 136, 137, 138, 139, 140, 141, 142, 143, 144, 145, 146, 147, 148, 149, 150, 151, 152, 153, 154, 155, 156, 157, 158, 159, 160, 161, 162, 163, 164, 165, 166, 167, 168, 169, 170, 171, 172, 173, 174, 175, 176, 177, 178, 179, 180, 181, 182, 183, 184, 185, 186] (by decide +kernel) (by decide +kernel)) (goodIn_sub (fun _ h => List.mem_cons_of_mem _ (List.mem_append_left _ (List.mem_append_right _ h))) (by decide +kernel))) (goodIn_sub (fun _ h => List.mem_cons_of_mem _ (List.mem_append_right _ h)) (by decide +kernel))
set_option maxRecDepth 20000 in
theorem gL_foresee_X4_foresee : GoodIn wsL_foresee (wsV RL 53 RX4 yX4_foresee wsX4_foresee) := goodIn_app (goodIn_of _ (by decide +kernel)) ggL_foresee_X4_foresee
theorem dL_foresee_0 : decode cL_foresee 0 = .ok (.aload_n 3, 1) := by decide +kernel
theorem dL_foresee_1 : decode cL_foresee 1 = .ok (.iconst 0, 1) := by decide +kernel
theorem dL_foresee_2 : decode cL_foresee 2 = .ok (.aload_n 0, 1) := by decide +kernel
theorem dL_foresee_3 : decode cL_foresee 3 = .ok (.iload_n 1, 1) := by decide +kernel
theorem dL_foresee_4 : decode cL_foresee 4 = .ok (.iload_n 2, 1) := by decide +kernel
theorem dL_foresee_5 : decode cL_foresee 5 = .ok (.invokevirtual 53, 3) := by decide +kernel
theorem dL_foresee_8 : decode cL_foresee 8 = .ok (.i2l, 1) := by decide +kernel
theorem dL_foresee_9 : decode cL_foresee 9 = .ok (.lastore, 1) := by decide +kernel
theorem dL_foresee_10 : decode cL_foresee 10 = .ok (.goto 11, 3) := by decide +kernel
theorem dL_foresee_13 : decode cL_foresee 13 = .ok (.astore 4, 2) := by decide +kernel
theorem dL_foresee_15 : decode cL_foresee 15 = .ok (.iconst 1, 1) := by decide +kernel
theorem dL_foresee_16 : decode cL_foresee 16 = .ok (.ireturn, 1) := by decide +kernel
theorem dL_foresee_17 : decode cL_foresee 17 = .ok (.astore 4, 2) := by decide +kernel
theorem dL_foresee_19 : decode cL_foresee 19 = .ok (.iconst 2, 1) := by decide +kernel
theorem dL_foresee_20 : decode cL_foresee 20 = .ok (.ireturn, 1) := by decide +kernel
theorem dL_foresee_21 : decode cL_foresee 21 = .ok (.iconst 0, 1) := by decide +kernel
theorem dL_foresee_22 : decode cL_foresee 22 = .ok (.ireturn, 1) := by decide +kernel
set_option maxRecDepth 20000 in
theorem ggL_law_X4_init : GoodIn wsL_law wsX4_init := goodIn_r _ [9, 10, 11, 12, 13, 14, 15, 16, 17, 18, 19, 20, 21, 22, 23, 24, 25, 26, 27, 28, 29, 30, 31, 32, 33, 34, 35, 36, 37, 38, 39, 40, 41, 42, 43, 44, 45, 46, 47, 48, 49, 50, 51, 52, 53, 54, 55, 56, 57, 58, 59, 60, 61, 62, 63, 614, 615, 597, 598, 599, 600, 601, 602, 616, 617, 618, 619, 620, 621, 622, 623, 624, 625] (by decide +kernel) (by decide +kernel)
set_option maxRecDepth 20000 in
theorem gL_law_X4_init : GoodIn wsL_law (wsX4_init) := ggL_law_X4_init
set_option maxRecDepth 20000 in
theorem ggL_law_X5_init : GoodIn wsL_law wsX5_init := goodIn_r _ [66, 67, 11, 12, 30, 68, 69, 70, 71, 72, 73, 74, 75, 76, 603, 604, 605, 606, 607, 608, 609, 610, 611, 612, 613] (by decide +kernel) (by decide +kernel)
set_option maxRecDepth 20000 in
theorem gL_law_X5_init : GoodIn wsL_law (wsX5_init) := ggL_law_X5_init
set_option maxRecDepth 20000 in
theorem ggL_law_L_setGround : GoodIn wsL_law wsL_setGround := goodIn_ca (goodIn_ca (goodIn_r _ [80, 81, 82, 83, 84, 85, 2, 86, 20, 87, 88, 89, 90, 91, 92, 93, 94, 95, 96, 97, 98, 99, 100, 101, 102, 19, 103, 46, 47, 104, 105, 106, 107, 597, 598, 599, 600, 601, 602, 616, 617, 618, 619] (by decide +kernel) (by decide +kernel)) (goodIn_sub (fun _ h => List.mem_append_left _ (List.mem_append_right _ h)) (by decide +kernel))) (goodIn_sub (fun _ h => List.mem_append_right _ h) (by decide +kernel))
set_option maxRecDepth 20000 in
theorem gL_law_L_setGround : GoodIn wsL_law (va_wsS RL 60 yL_setGround wsL_setGround) := goodIn_app (goodIn_of _ (by decide +kernel)) ggL_law_L_setGround
set_option maxRecDepth 20000 in
theorem ggL_law_X5_setGround : GoodIn wsL_law wsX5_setGround := goodIn_r _ [111, 112, 68, 69, 113, 105, 106, 107, 114, 115, 5, 116, 117, 118, 119, 120, 121, 122, 123, 603, 604, 605, 606, 607, 608, 609, 610, 611, 612, 613] (by decide +kernel) (by decide +kernel)
set_option maxRecDepth 20000 in
theorem gL_law_X5_setGround : GoodIn wsL_law (wsV RL 65 RX5 yX5_setGround wsX5_setGround) := goodIn_app (goodIn_of _ (by decide +kernel)) ggL_law_X5_setGround
set_option maxRecDepth 20000 in
theorem ggL_law_X5_thrown : GoodIn wsL_law wsX5_thrown := goodIn_r _ [127, 112, 603, 604, 605, 606, 607, 608, 609, 610, 611, 612, 613] (by decide +kernel) (by decide +kernel)
set_option maxRecDepth 20000 in
theorem gL_law_X5_thrown : GoodIn wsL_law (wsV RL 66 RX5 yX5_thrown wsX5_thrown) := goodIn_app (goodIn_of _ (by decide +kernel)) ggL_law_X5_thrown
set_option maxRecDepth 20000 in
theorem ggL_law_L_plant : GoodIn wsL_law wsL_plant := goodIn_ca (goodIn_ca (goodIn_r _ [130, 81, 82, 131, 132, 133, 2, 134, 20, 87, 88, 89, 90, 91, 92, 93, 94, 135, 136, 137, 19, 138, 46, 95, 96, 97, 98, 99, 139, 140, 141, 142, 47, 597, 598, 599, 600, 601, 602, 616, 617, 618, 619] (by decide +kernel) (by decide +kernel)) (goodIn_sub (fun _ h => List.mem_append_left _ (List.mem_append_right _ h)) (by decide +kernel))) (goodIn_sub (fun _ h => List.mem_append_right _ h) (by decide +kernel))
set_option maxRecDepth 20000 in
theorem gL_law_L_plant : GoodIn wsL_law (va_wsS RL 70 yL_plant wsL_plant) := goodIn_app (goodIn_of _ (by decide +kernel)) ggL_law_L_plant
set_option maxRecDepth 20000 in
theorem ggL_law_X5_plant : GoodIn wsL_law wsX5_plant := goodIn_r _ [146, 112, 68, 69, 114, 115, 5, 116, 117, 118, 119, 120, 121, 122, 123, 603, 604, 605, 606, 607, 608, 609, 610, 611, 612, 613] (by decide +kernel) (by decide +kernel)
set_option maxRecDepth 20000 in
theorem gL_law_X5_plant : GoodIn wsL_law (wsV RL 72 RX5 yX5_plant wsX5_plant) := goodIn_app (goodIn_of _ (by decide +kernel)) ggL_law_X5_plant
set_option maxRecDepth 20000 in
theorem ggL_law_L_setMonth : GoodIn wsL_law wsL_setMonth := goodIn_ca (goodIn_ca (goodIn_r _ [149, 81, 82, 150, 151, 152, 2, 153, 16, 90, 91, 92, 93, 94, 95, 96, 97, 98, 99, 154, 155, 156, 15, 157, 36, 37, 158, 159, 160, 161, 597, 598, 599, 600, 601, 602, 614, 615] (by decide +kernel) (by decide +kernel)) (goodIn_sub (fun _ h => List.mem_append_left _ (List.mem_append_right _ h)) (by decide +kernel))) (goodIn_sub (fun _ h => List.mem_append_right _ h) (by decide +kernel))
set_option maxRecDepth 20000 in
theorem gL_law_L_setMonth : GoodIn wsL_law (va_wsS RL 73 yL_setMonth wsL_setMonth) := goodIn_app (goodIn_of _ (by decide +kernel)) ggL_law_L_setMonth
set_option maxRecDepth 20000 in
theorem ggL_law_X5_setMonth : GoodIn wsL_law wsX5_setMonth := goodIn_r _ [165, 112, 72, 73, 117, 118, 5, 119, 120, 121, 122, 123, 603, 604, 605, 606, 607, 608, 609, 610, 611, 612, 613] (by decide +kernel) (by decide +kernel)
set_option maxRecDepth 20000 in
theorem gL_law_X5_setMonth : GoodIn wsL_law (wsV RL 75 RX5 yX5_setMonth wsX5_setMonth) := goodIn_app (goodIn_of _ (by decide +kernel)) ggL_law_X5_setMonth
set_option maxRecDepth 20000 in
theorem ggL_law_L_cell : GoodIn wsL_law wsL_cell := goodIn_ca (goodIn_r _ [168, 81, 169, 170, 171, 2, 172, 20, 87, 88, 89, 90, 91, 92, 93, 94, 135, 136, 137, 19, 138, 46, 173, 174, 175, 176, 47, 177, 178, 179, 180, 181, 182, 106, 183, 184, 185, 186, 187, 188, 189, 190, 191, 29, 192, 193, 194, 195, 196, 197, 198, 28, 199, 62, 200, 201, 39, 40, 41, 202, 203, 204, 205, 61, 206, 207, 208, 209, 210, 211, 212, 213, 63, 214, 215, 216, 217, 218, 219, 597, 598, 599, 600, 601, 602, 616, 617, 618, 619, 622, 623, 624, 625] (by decide +kernel) (by decide +kernel)) (goodIn_sub (fun _ h => List.mem_append_left _ (List.mem_append_right _ h)) (by decide +kernel))
set_option maxRecDepth 20000 in
theorem gL_law_L_cell : GoodIn wsL_law (va_wsS RL 76 yL_cell wsL_cell) := goodIn_app (goodIn_of _ (by decide +kernel)) ggL_law_L_cell
set_option maxRecDepth 20000 in
theorem ggL_law_X5_cell : GoodIn wsL_law wsX5_cell := goodIn_r _ [223, 112, 68, 69, 114, 115, 5, 116, 117, 118, 119, 120, 121, 122, 123, 224, 225, 226, 227, 228, 182, 106, 183, 229, 230, 231, 232, 233, 234, 235, 236, 75, 237, 238, 239, 240, 241, 242, 243, 603, 604, 605, 606, 607, 608, 609, 610, 611, 612, 613] (by decide +kernel) (by decide +kernel)
set_option maxRecDepth 20000 in
theorem gL_law_X5_cell : GoodIn wsL_law (wsV RL 78 RX5 yX5_cell wsX5_cell) := goodIn_app (goodIn_of _ (by decide +kernel)) ggL_law_X5_cell
set_option maxRecDepth 20000 in
theorem ggL_law_L_sound : GoodIn wsL_law wsL_sound := goodIn_ca (goodIn_r _ [246, 81, 247, 248, 249, 2, 250, 25, 20, 87, 88, 89, 90, 91, 92, 93, 94, 251, 252, 253, 24, 254, 55, 177, 178, 179, 19, 180, 46, 47, 181, 182, 106, 183, 255, 256, 257, 258, 259, 260, 261, 262, 263, 56, 597, 598, 599, 600, 601, 602, 620, 621, 616, 617, 618, 619] (by decide +kernel) (by decide +kernel)) (goodIn_sub (fun _ h => List.mem_append_left _ (List.mem_append_right _ h)) (by decide +kernel))
set_option maxRecDepth 20000 in
theorem gL_law_L_sound : GoodIn wsL_law (va_wsS RL 79 yL_sound wsL_sound) := goodIn_app (goodIn_of _ (by decide +kernel)) ggL_law_L_sound
set_option maxRecDepth 20000 in
theorem ggL_law_X5_sound : GoodIn wsL_law wsX5_sound := goodIn_r _ [267, 112, 70, 71, 268, 114, 115, 5, 116, 117, 118, 119, 120, 121, 122, 123, 224, 225, 226, 227, 68, 69, 228, 182, 106, 183, 603, 604, 605, 606, 607, 608, 609, 610, 611, 612, 613] (by decide +kernel) (by decide +kernel)
set_option maxRecDepth 20000 in
theorem gL_law_X5_sound : GoodIn wsL_law (wsV RL 82 RX5 yX5_sound wsX5_sound) := goodIn_app (goodIn_of _ (by decide +kernel)) ggL_law_X5_sound
set_option maxRecDepth 20000 in
theorem ggL_law_L_chart : GoodIn wsL_law wsL_chart := goodIn_ca (goodIn_r _ [271, 81, 272, 273, 274, 2, 275, 87, 88, 89, 90, 91, 92, 93, 94, 276, 277, 278, 279, 25, 20, 251, 252, 253, 24, 254, 55, 255, 256, 257, 19, 258, 259, 280, 281, 282, 283, 56, 284, 285, 286, 287, 288, 182, 106, 183, 597, 598, 599, 600, 601, 602, 620, 621, 616, 617, 618, 619] (by decide +kernel) (by decide +kernel)) (goodIn_sub (fun _ h => List.mem_append_left _ (List.mem_append_right _ h)) (by decide +kernel))
set_option maxRecDepth 20000 in
theorem gL_law_L_chart : GoodIn wsL_law (va_wsS RL 83 yL_chart wsL_chart) := goodIn_app (goodIn_of _ (by decide +kernel)) ggL_law_L_chart
set_option maxRecDepth 20000 in
theorem ggL_law_X5_chart : GoodIn wsL_law wsX5_chart := goodIn_r _ [292, 112, 114, 115, 5, 116, 117, 118, 119, 293, 294, 295, 296, 70, 268, 71, 228, 182, 106, 183, 120, 121, 122, 123, 603, 604, 605, 606, 607, 608, 609, 610, 611, 612, 613] (by decide +kernel) (by decide +kernel)
set_option maxRecDepth 20000 in
theorem gL_law_X5_chart : GoodIn wsL_law (wsV RL 85 RX5 yX5_chart wsX5_chart) := goodIn_app (goodIn_of _ (by decide +kernel)) ggL_law_X5_chart
set_option maxRecDepth 20000 in
theorem ggL_law_L_way : GoodIn wsL_law wsL_way := goodIn_ca (goodIn_r _ [299, 82, 300, 301, 302, 2, 303, 29, 95, 96, 97, 98, 99, 304, 305, 306, 307, 20, 308, 309, 310, 311, 31, 284, 285, 286, 287, 25, 288, 182, 106, 183, 251, 252, 253, 24, 254, 55, 255, 256, 257, 19, 258, 259, 280, 281, 282, 283, 56, 312, 313, 314, 315, 177, 178, 179, 180, 46, 47, 181, 316, 317, 318, 319, 320, 321, 322, 323, 196, 197, 198, 28, 199, 62, 200, 201, 39, 40, 41, 202, 203, 204, 205, 61, 324, 325, 326, 327, 210, 211, 212, 213, 63, 214, 215, 216, 217, 218, 219, 328, 329, 330, 331, 597, 598, 599, 600, 601, 602, 620, 621, 616, 617, 618, 619, 622, 623, 624, 625] (by decide +kernel) (by decide +kernel)) (goodIn_sub (fun _ h => List.mem_append_right _ h) (by decide +kernel))
set_option maxRecDepth 20000 in
theorem gL_law_L_way : GoodIn wsL_law (va_wsS RL 86 yL_way wsL_way) := goodIn_app (goodIn_of _ (by decide +kernel)) ggL_law_L_way
set_option maxRecDepth 20000 in
theorem ggL_law_X5_way : GoodIn wsL_law wsX5_way := goodIn_r _ [335, 112, 117, 118, 5, 119, 336, 337, 338, 339, 76, 113, 105, 106, 107, 340, 341, 342, 343, 293, 294, 295, 296, 70, 268, 71, 228, 182, 183, 224, 225, 226, 227, 68, 69, 241, 242, 243, 120, 121, 122, 123, 603, 604, 605, 606, 607, 608, 609, 610, 611, 612, 613] (by decide +kernel) (by decide +kernel)
set_option maxRecDepth 20000 in
theorem gL_law_X5_way : GoodIn wsL_law (wsV RL 89 RX5 yX5_way wsX5_way) := goodIn_app (goodIn_of _ (by decide +kernel)) ggL_law_X5_way
set_option maxRecDepth 20000 in
theorem ggL_law_X4_deepest : GoodIn wsL_law wsX4_deepest := goodIn_r _ [347, 304, 305, 306, 2, 307, 20, 308, 309, 310, 311, 31, 284, 285, 286, 287, 25, 288, 182, 106, 183, 251, 252, 253, 24, 254, 55, 255, 256, 257, 19, 258, 259, 280, 281, 282, 283, 56, 312, 313, 314, 315, 177, 178, 179, 180, 46, 47, 181, 348, 349, 350, 351, 316, 317, 318, 319, 29, 320, 321, 322, 323, 196, 197, 198, 28, 199, 62, 200, 201, 39, 40, 41, 202, 203, 204, 205, 61, 324, 325, 326, 327, 210, 211, 212, 213, 63, 214, 215, 216, 217, 218, 219, 328, 329, 330, 331, 597, 598, 599, 600, 601, 602, 620, 621, 616, 617, 618, 619, 622, 623, 624, 625] (by decide +kernel) (by decide +kernel)
set_option maxRecDepth 20000 in
theorem gL_law_X4_deepest : GoodIn wsL_law (wsV RL 90 RX4 yX4_deepest wsX4_deepest) := goodIn_app (goodIn_of _ (by decide +kernel)) ggL_law_X4_deepest
set_option maxRecDepth 20000 in
theorem ggL_law_X5_deepest : GoodIn wsL_law wsX5_deepest := goodIn_r _ [355, 112, 356, 357, 358, 5, 359, 336, 337, 338, 339, 76, 113, 105, 106, 107, 340, 341, 342, 343, 293, 294, 295, 296, 70, 268, 71, 228, 182, 183, 224, 225, 226, 227, 68, 69, 241, 242, 243, 603, 604, 605, 606, 607, 608, 609, 610, 611, 612, 613] (by decide +kernel) (by decide +kernel)
set_option maxRecDepth 20000 in
theorem gL_law_X5_deepest : GoodIn wsL_law (wsV RL 94 RX5 yX5_deepest wsX5_deepest) := goodIn_app (goodIn_of _ (by decide +kernel)) ggL_law_X5_deepest
set_option maxRecDepth 20000 in
theorem ggL_law_L_harbours : GoodIn wsL_law wsL_harbours := goodIn_ca (goodIn_r _ [362, 82, 363, 364, 365, 2, 366, 29, 95, 96, 97, 98, 99, 304, 305, 306, 307, 20, 308, 309, 310, 311, 31, 284, 285, 286, 287, 25, 288, 182, 106, 183, 251, 252, 253, 24, 254, 55, 255, 256, 257, 19, 258, 259, 280, 281, 282, 283, 56, 312, 313, 314, 315, 177, 178, 179, 180, 46, 47, 181, 320, 321, 322, 323, 196, 197, 198, 28, 199, 62, 200, 201, 39, 40, 41, 202, 203, 204, 205, 61, 324, 325, 326, 327, 210, 211, 212, 213, 63, 214, 215, 216, 217, 218, 219, 328, 329, 330, 331, 597, 598, 599, 600, 601, 602, 620, 621, 616, 617, 618, 619, 622, 623, 624, 625] (by decide +kernel) (by decide +kernel)) (goodIn_sub (fun _ h => List.mem_append_right _ h) (by decide +kernel))
set_option maxRecDepth 20000 in
theorem gL_law_L_harbours : GoodIn wsL_law (va_wsS RL 95 yL_harbours wsL_harbours) := goodIn_app (goodIn_of _ (by decide +kernel)) ggL_law_L_harbours
set_option maxRecDepth 20000 in
theorem ggL_law_X5_harbours : GoodIn wsL_law wsX5_harbours := goodIn_r _ [370, 112, 76, 117, 118, 5, 119, 120, 121, 122, 123, 340, 341, 342, 343, 113, 105, 106, 107, 293, 294, 295, 296, 70, 268, 71, 228, 182, 183, 224, 225, 226, 227, 68, 69, 241, 242, 243, 603, 604, 605, 606, 607, 608, 609, 610, 611, 612, 613] (by decide +kernel) (by decide +kernel)
set_option maxRecDepth 20000 in
theorem gL_law_X5_harbours : GoodIn wsL_law (wsV RL 98 RX5 yX5_harbours wsX5_harbours) := goodIn_app (goodIn_of _ (by decide +kernel)) ggL_law_X5_harbours
set_option maxRecDepth 20000 in
theorem ggL_law_L_pilot : GoodIn wsL_law wsL_pilot := goodIn_ca (goodIn_r _ [373, 82, 374, 375, 376, 2, 377, 95, 96, 97, 98, 99, 304, 305, 306, 307, 20, 308, 309, 310, 311, 31, 284, 285, 286, 287, 25, 288, 182, 106, 183, 251, 252, 253, 24, 254, 55, 255, 256, 257, 19, 258, 259, 280, 281, 282, 283, 56, 312, 313, 314, 315, 177, 178, 179, 180, 46, 47, 181, 316, 317, 318, 319, 29, 320, 321, 322, 323, 196, 197, 198, 28, 199, 62, 200, 201, 39, 40, 41, 202, 203, 204, 205, 61, 324, 325, 326, 327, 210, 211, 212, 213, 63, 214, 215, 216, 217, 218, 219, 328, 329, 330, 331, 378, 379, 380, 381, 382, 383, 384, 385, 597, 598, 599, 600, 601, 602, 620, 621, 616, 617, 618, 619, 622, 623, 624, 625] (by decide +kernel) (by decide +kernel)) (goodIn_sub (fun _ h => List.mem_append_right _ h) (by decide +kernel))
set_option maxRecDepth 20000 in
theorem gL_law_L_pilot : GoodIn wsL_law (va_wsS RL 99 yL_pilot wsL_pilot) := goodIn_app (goodIn_of _ (by decide +kernel)) ggL_law_L_pilot
set_option maxRecDepth 20000 in
theorem ggL_law_X5_pilot : GoodIn wsL_law wsX5_pilot := goodIn_r _ [389, 112, 76, 117, 118, 5, 119, 120, 121, 122, 123, 336, 337, 338, 339, 113, 105, 106, 107, 340, 341, 342, 343, 293, 294, 295, 296, 70, 268, 71, 228, 182, 183, 224, 225, 226, 227, 68, 69, 241, 242, 243, 603, 604, 605, 606, 607, 608, 609, 610, 611, 612, 613] (by decide +kernel) (by decide +kernel)
set_option maxRecDepth 20000 in
theorem gL_law_X5_pilot : GoodIn wsL_law (wsV RL 101 RX5 yX5_pilot wsX5_pilot) := goodIn_app (goodIn_of _ (by decide +kernel)) ggL_law_X5_pilot
set_option maxRecDepth 20000 in
theorem ggL_law_L_pass : GoodIn wsL_law wsL_pass := goodIn_ca (goodIn_r _ [392, 82, 393, 394, 395, 2, 396, 20, 16, 95, 96, 97, 98, 99, 397, 398, 399, 19, 400, 401, 185, 186, 187, 47, 402, 403, 404, 405, 259, 406, 407, 408, 15, 409, 36, 410, 411, 412, 413, 414, 415, 416, 417, 418, 419, 420, 421, 181, 182, 106, 183, 422, 423, 424, 425, 46, 104, 105, 107, 426, 427, 428, 429, 49, 430, 178, 179, 180, 431, 432, 433, 434, 218, 219, 435, 436, 437, 438, 439, 440, 441, 442, 37, 443, 444, 445, 446, 447, 448, 449, 450, 597, 598, 599, 600, 601, 602, 616, 617, 618, 619, 614, 615] (by decide +kernel) (by decide +kernel)) (goodIn_sub (fun _ h => List.mem_append_right _ h) (by decide +kernel))
set_option maxRecDepth 20000 in
theorem gL_law_L_pass : GoodIn wsL_law (va_wsS RL 102 yL_pass wsL_pass) := goodIn_app (goodIn_of _ (by decide +kernel)) ggL_law_L_pass
set_option maxRecDepth 20000 in
theorem ggL_law_X5_pass : GoodIn wsL_law wsX5_pass := goodIn_r _ [454, 112, 117, 118, 5, 119, 120, 121, 122, 123, 455, 456, 457, 458, 229, 230, 231, 232, 69, 459, 460, 461, 462, 268, 72, 73, 463, 464, 465, 466, 74, 68, 113, 105, 106, 107, 228, 182, 183, 467, 468, 469, 470, 224, 225, 226, 227, 471, 472, 473, 474, 241, 242, 243, 475, 476, 477, 478, 603, 604, 605, 606, 607, 608, 609, 610, 611, 612, 613] (by decide +kernel) (by decide +kernel)
set_option maxRecDepth 20000 in
theorem gL_law_X5_pass : GoodIn wsL_law (wsV RL 104 RX5 yX5_pass wsX5_pass) := goodIn_app (goodIn_of _ (by decide +kernel)) ggL_law_X5_pass
set_option maxRecDepth 20000 in
theorem ggL_law_L_count : GoodIn wsL_law wsL_count := goodIn_ca (goodIn_r _ [481, 81, 482, 483, 484, 2, 485, 90, 91, 92, 93, 94, 486, 487, 488, 489, 20, 255, 256, 257, 19, 258, 259, 397, 398, 399, 400, 401, 185, 186, 187, 47, 490, 491, 492, 493, 29, 192, 193, 194, 195, 196, 197, 198, 28, 199, 62, 200, 201, 39, 40, 41, 184, 202, 203, 204, 205, 61, 206, 207, 208, 209, 210, 211, 212, 213, 63, 214, 215, 216, 217, 218, 219, 494, 495, 496, 497, 288, 182, 106, 183, 498, 499, 500, 501, 502, 503, 504, 505, 25, 251, 252, 253, 24, 254, 55, 506, 507, 508, 509, 177, 178, 179, 180, 46, 181, 510, 511, 512, 513, 597, 598, 599, 600, 601, 602, 616, 617, 618, 619, 622, 623, 624, 625, 620, 621] (by decide +kernel) (by decide +kernel)) (goodIn_sub (fun _ h => List.mem_append_left _ (List.mem_append_right _ h)) (by decide +kernel))
set_option maxRecDepth 20000 in
theorem gL_law_L_count : GoodIn wsL_law (va_wsS RL 105 yL_count wsL_count) := goodIn_app (goodIn_of _ (by decide +kernel)) ggL_law_L_count
set_option maxRecDepth 20000 in
theorem ggL_law_X5_count : GoodIn wsL_law wsX5_count := goodIn_r _ [517, 112, 117, 118, 5, 119, 518, 519, 520, 521, 268, 69, 70, 455, 456, 457, 458, 229, 230, 231, 232, 522, 523, 524, 525, 75, 237, 238, 239, 240, 241, 242, 243, 526, 527, 528, 529, 228, 182, 106, 183, 224, 225, 226, 227, 68, 120, 121, 122, 123, 603, 604, 605, 606, 607, 608, 609, 610, 611, 612, 613] (by decide +kernel) (by decide +kernel)
set_option maxRecDepth 20000 in
theorem gL_law_X5_count : GoodIn wsL_law (wsV RL 107 RX5 yX5_count wsX5_count) := goodIn_app (goodIn_of _ (by decide +kernel)) ggL_law_X5_count
set_option maxRecDepth 20000 in
theorem ggL_law_L_closes : GoodIn wsL_law wsL_closes := goodIn_ca (goodIn_r _ [532, 82, 533, 534, 535, 2, 536, 21, 20, 16, 95, 96, 97, 98, 99, 537, 538, 539, 19, 540, 46, 541, 468, 469, 470, 47, 259, 312, 313, 314, 315, 31, 177, 178, 179, 180, 181, 182, 106, 183, 316, 317, 318, 319, 29, 320, 321, 322, 323, 196, 197, 198, 28, 199, 62, 200, 201, 39, 40, 41, 202, 203, 204, 205, 61, 324, 325, 326, 327, 210, 211, 212, 213, 63, 214, 215, 216, 217, 218, 219, 328, 329, 330, 331, 402, 403, 404, 405, 406, 407, 408, 15, 409, 36, 410, 411, 412, 413, 414, 415, 416, 417, 418, 419, 420, 421, 422, 423, 424, 425, 104, 105, 107, 426, 427, 428, 429, 49, 401, 185, 186, 187, 430, 431, 432, 433, 434, 435, 436, 437, 438, 439, 440, 441, 442, 37, 443, 444, 445, 446, 447, 448, 449, 450, 597, 598, 599, 600, 601, 602, 616, 617, 618, 619, 622, 623, 624, 625, 614, 615] (by decide +kernel) (by decide +kernel)) (goodIn_sub (fun _ h => List.mem_append_right _ h) (by decide +kernel))
set_option maxRecDepth 20000 in
theorem gL_law_L_closes : GoodIn wsL_law (va_wsS RL 108 yL_closes wsL_closes) := goodIn_app (goodIn_of _ (by decide +kernel)) ggL_law_L_closes
set_option maxRecDepth 20000 in
theorem ggL_law_X5_closes : GoodIn wsL_law wsX5_closes := goodIn_r _ [545, 112, 68, 546, 547, 548, 549, 550, 551, 69, 268, 117, 118, 5, 119, 120, 121, 122, 123, 336, 337, 338, 339, 76, 113, 105, 106, 107, 340, 341, 342, 343, 293, 294, 295, 296, 70, 71, 228, 182, 183, 224, 225, 226, 227, 241, 242, 243, 459, 460, 461, 462, 72, 73, 463, 464, 465, 466, 74, 467, 468, 469, 470, 471, 472, 473, 474, 229, 230, 231, 232, 475, 476, 477, 478, 552, 553, 554, 555, 603, 604, 605, 606, 607, 608, 609, 610, 611, 612, 613] (by decide +kernel) (by decide +kernel)
set_option maxRecDepth 20000 in
theorem gL_law_X5_closes : GoodIn wsL_law (wsV RL 110 RX5 yX5_closes wsX5_closes) := goodIn_app (goodIn_of _ (by decide +kernel)) ggL_law_X5_closes
set_option maxRecDepth 20000 in
theorem ggL_law_L_foresee : GoodIn wsL_law wsL_foresee := goodIn_ca (goodIn_ca (goodIn_r _ [558, 82, 81, 559, 560, 561, 2, 562, 21, 20, 16, 95, 96, 97, 98, 99, 90, 91, 92, 93, 94, 537, 538, 539, 19, 540, 46, 541, 468, 469, 470, 47, 259, 402, 403, 404, 405, 406, 407, 408, 15, 409, 36, 410, 411, 412, 413, 414, 415, 416, 417, 418, 419, 420, 421, 181, 182, 106, 183, 422, 423, 424, 425, 104, 105, 107, 426, 427, 428, 429, 49, 401, 185, 186, 187, 430, 178, 179, 180, 431, 432, 433, 434, 218, 219, 435, 436, 437, 438, 439, 440, 441, 442, 37, 443, 444, 445, 446, 447, 448, 449, 450, 397, 398, 399, 400, 490, 491, 492, 493, 29, 192, 193, 194, 195, 196, 197, 198, 28, 199, 62, 200, 201, 39, 40, 41, 184, 202, 203, 204, 205, 61, 206, 207, 208, 209, 210, 211, 212, 213, 63, 214, 215, 216, 217, 312, 313, 314, 315, 31, 177, 348, 349, 350, 351, 316, 317, 318, 319, 320, 321, 322, 323, 324, 325, 326, 327, 328, 329, 330, 331, 597, 598, 599, 600, 601, 602, 616, 617, 618, 619, 614, 615, 622, 623, 624, 625] (by decide +kernel) (by decide +kernel)) (goodIn_sub (fun _ h => List.mem_append_right _ h) (by decide +kernel))) (goodIn_sub (fun _ h => List.mem_append_left _ (List.mem_append_right _ h)) (by decide +kernel))
set_option maxRecDepth 20000 in
theorem gL_law_L_foresee : GoodIn wsL_law (va_wsS RL 111 yL_foresee wsL_foresee) := goodIn_app (goodIn_of _ (by decide +kernel)) ggL_law_L_foresee
set_option maxRecDepth 20000 in
theorem ggL_law_X5_foresee : GoodIn wsL_law wsX5_foresee := goodIn_r _ [566, 112, 68, 546, 547, 548, 549, 550, 551, 69, 268, 117, 118, 5, 119, 120, 121, 122, 123, 459, 460, 461, 462, 72, 73, 463, 464, 465, 466, 74, 113, 105, 106, 107, 228, 182, 183, 467, 468, 469, 470, 224, 225, 226, 227, 471, 472, 473, 474, 241, 242, 243, 229, 230, 231, 232, 475, 476, 477, 478, 455, 456, 457, 458, 522, 523, 524, 525, 75, 237, 238, 239, 240, 356, 357, 358, 359, 336, 337, 338, 339, 76, 340, 341, 342, 343, 293, 294, 295, 296, 70, 71, 552, 553, 554, 555, 603, 604, 605, 606, 607, 608, 609, 610, 611, 612, 613] (by decide +kernel) (by decide +kernel)
set_option maxRecDepth 20000 in
theorem gL_law_X5_foresee : GoodIn wsL_law (wsV RL 113 RX5 yX5_foresee wsX5_foresee) := goodIn_app (goodIn_of _ (by decide +kernel)) ggL_law_X5_foresee
set_option maxRecDepth 20000 in
theorem ggL_law_X4_advise : GoodIn wsL_law wsX4_advise := goodIn_r _ [570, 288, 182, 106, 183, 20, 284, 285, 286, 2, 287, 25, 251, 252, 253, 24, 254, 55, 255, 256, 257, 19, 258, 259, 280, 281, 282, 283, 56, 177, 178, 179, 180, 46, 47, 181, 597, 598, 599, 600, 601, 602, 620, 621, 616, 617, 618, 619] (by decide +kernel) (by decide +kernel)
set_option maxRecDepth 20000 in
theorem gL_law_X4_advise : GoodIn wsL_law (wsV RL 114 RX4 yX4_advise wsX4_advise) := goodIn_app (goodIn_of _ (by decide +kernel)) ggL_law_X4_advise
set_option maxRecDepth 20000 in
theorem ggL_law_X5_advise : GoodIn wsL_law wsX5_advise := goodIn_r _ [574, 112, 228, 182, 106, 183, 293, 294, 295, 5, 296, 70, 268, 71, 224, 225, 226, 227, 68, 69, 603, 604, 605, 606, 607, 608, 609, 610, 611, 612, 613] (by decide +kernel) (by decide +kernel)
set_option maxRecDepth 20000 in
theorem gL_law_X5_advise : GoodIn wsL_law (wsV RL 117 RX5 yX5_advise wsX5_advise) := goodIn_app (goodIn_of _ (by decide +kernel)) ggL_law_X5_advise
set_option maxRecDepth 20000 in
theorem ggL_law_X4_mean : GoodIn wsL_law wsX4_mean := goodIn_r _ [578, 20, 579, 177, 178, 179, 19, 180, 46, 47, 181, 182, 106, 183, 597, 598, 599, 600, 601, 602, 616, 617, 618, 619] (by decide +kernel) (by decide +kernel)
set_option maxRecDepth 20000 in
theorem gL_law_X4_mean : GoodIn wsL_law (wsV RL 118 RX4 yX4_mean wsX4_mean) := goodIn_app (goodIn_of _ (by decide +kernel)) ggL_law_X4_mean
set_option maxRecDepth 20000 in
theorem ggL_law_X5_mean : GoodIn wsL_law wsX5_mean := goodIn_r _ [583, 112, 584, 224, 225, 226, 5, 227, 68, 69, 228, 182, 106, 183, 603, 604, 605, 606, 607, 608, 609, 610, 611, 612, 613] (by decide +kernel) (by decide +kernel)
set_option maxRecDepth 20000 in
theorem gL_law_X5_mean : GoodIn wsL_law (wsV RL 122 RX5 yX5_mean wsX5_mean) := goodIn_app (goodIn_of _ (by decide +kernel)) ggL_law_X5_mean
set_option maxRecDepth 20000 in
theorem ggL_law_X4_digest : GoodIn wsL_law wsX4_digest := goodIn_r _ [588, 589, 590, 16, 20, 486, 487, 488, 2, 489, 255, 256, 257, 19, 258, 259, 397, 398, 399, 400, 401, 185, 186, 187, 47, 490, 491, 492, 493, 29, 192, 193, 194, 195, 196, 197, 198, 28, 199, 62, 200, 201, 39, 40, 41, 184, 202, 203, 204, 205, 61, 206, 207, 208, 209, 210, 211, 212, 213, 63, 214, 215, 216, 217, 218, 219, 494, 495, 496, 497, 288, 182, 106, 183, 498, 499, 500, 501, 502, 503, 504, 505, 25, 251, 252, 253, 24, 254, 55, 506, 507, 508, 509, 177, 178, 179, 180, 46, 181, 510, 511, 512, 513, 154, 155, 156, 15, 157, 36, 37, 135, 136, 137, 138, 173, 174, 175, 176, 276, 277, 278, 279, 280, 281, 282, 283, 56, 284, 285, 286, 287, 597, 598, 599, 600, 601, 602, 616, 617, 618, 619, 622, 623, 624, 625, 620, 621, 614, 615] (by decide +kernel) (by decide +kernel)
set_option maxRecDepth 20000 in
theorem gL_law_X4_digest : GoodIn wsL_law (wsV RL 123 RX4 yX4_digest wsX4_digest) := goodIn_app (goodIn_of _ (by decide +kernel)) ggL_law_X4_digest
set_option maxRecDepth 20000 in
theorem ggL_law_X5_digest : GoodIn wsL_law wsX5_digest := goodIn_r _ [594, 112, 595, 596, 72, 73, 68, 69, 518, 519, 520, 5, 521, 268, 70, 455, 456, 457, 458, 229, 230, 231, 232, 522, 523, 524, 525, 75, 237, 238, 239, 240, 241, 242, 243, 526, 527, 528, 529, 228, 182, 106, 183, 224, 225, 226, 227, 293, 294, 295, 296, 71, 603, 604, 605, 606, 607, 608, 609, 610, 611, 612, 613] (by decide +kernel) (by decide +kernel)
set_option maxRecDepth 20000 in
theorem gL_law_X5_digest : GoodIn wsL_law (wsV RL 127 RX5 yX5_digest wsX5_digest) := goodIn_app (goodIn_of _ (by decide +kernel)) ggL_law_X5_digest
theorem dL_law_0 : decode cL_law 0 = .ok (.new 8, 3) := by decide +kernel
theorem dL_law_3 : decode cL_law 3 = .ok (.dup, 1) := by decide +kernel
theorem dL_law_4 : decode cL_law 4 = .ok (.invokespecial 56, 3) := by decide +kernel
theorem dL_law_7 : decode cL_law 7 = .ok (.astore_n 1, 1) := by decide +kernel
theorem dL_law_8 : decode cL_law 8 = .ok (.new 57, 3) := by decide +kernel
theorem dL_law_11 : decode cL_law 11 = .ok (.dup, 1) := by decide +kernel
theorem dL_law_12 : decode cL_law 12 = .ok (.invokespecial 59, 3) := by decide +kernel
theorem dL_law_15 : decode cL_law 15 = .ok (.astore_n 2, 1) := by decide +kernel
theorem dL_law_16 : decode cL_law 16 = .ok (.iconst 1, 1) := by decide +kernel
theorem dL_law_17 : decode cL_law 17 = .ok (.newarray .long, 2) := by decide +kernel
theorem dL_law_19 : decode cL_law 19 = .ok (.astore_n 3, 1) := by decide +kernel
theorem dL_law_20 : decode cL_law 20 = .ok (.iconst 0, 1) := by decide +kernel
theorem dL_law_21 : decode cL_law 21 = .ok (.istore 4, 2) := by decide +kernel
theorem dL_law_23 : decode cL_law 23 = .ok (.iload 4, 2) := by decide +kernel
theorem dL_law_25 : decode cL_law 25 = .ok (.aload_n 0, 1) := by decide +kernel
theorem dL_law_26 : decode cL_law 26 = .ok (.arraylength, 1) := by decide +kernel
theorem dL_law_27 : decode cL_law 27 = .ok (.iconst 4, 1) := by decide +kernel
theorem dL_law_28 : decode cL_law 28 = .ok (.isub, 1) := by decide +kernel
theorem dL_law_29 : decode cL_law 29 = .ok (.if_icmp .gt 1106, 3) := by decide +kernel
theorem dL_law_32 : decode cL_law 32 = .ok (.aload_n 0, 1) := by decide +kernel
theorem dL_law_33 : decode cL_law 33 = .ok (.iload 4, 2) := by decide +kernel
theorem dL_law_35 : decode cL_law 35 = .ok (.iaload, 1) := by decide +kernel
theorem dL_law_36 : decode cL_law 36 = .ok (.bipush 31, 2) := by decide +kernel
theorem dL_law_38 : decode cL_law 38 = .ok (.iand, 1) := by decide +kernel
theorem dL_law_39 : decode cL_law 39 = .ok (.tableswitch 1090 0 16 #[81, 161, 241, 321, 401, 469, 549, 633, 674, 730, 786, 842, 898, 954, 1022, 1035, 1076], 81) := by decide +kernel
theorem dL_law_120 : decode cL_law 120 = .ok (.aload_n 1, 1) := by decide +kernel
theorem dL_law_121 : decode cL_law 121 = .ok (.aload_n 0, 1) := by decide +kernel
theorem dL_law_122 : decode cL_law 122 = .ok (.iload 4, 2) := by decide +kernel
theorem dL_law_124 : decode cL_law 124 = .ok (.iconst 1, 1) := by decide +kernel
theorem dL_law_125 : decode cL_law 125 = .ok (.iadd, 1) := by decide +kernel
theorem dL_law_126 : decode cL_law 126 = .ok (.iaload, 1) := by decide +kernel
theorem dL_law_127 : decode cL_law 127 = .ok (.aload_n 0, 1) := by decide +kernel
theorem dL_law_128 : decode cL_law 128 = .ok (.iload 4, 2) := by decide +kernel
theorem dL_law_130 : decode cL_law 130 = .ok (.iconst 2, 1) := by decide +kernel
theorem dL_law_131 : decode cL_law 131 = .ok (.iadd, 1) := by decide +kernel
theorem dL_law_132 : decode cL_law 132 = .ok (.iaload, 1) := by decide +kernel
theorem dL_law_133 : decode cL_law 133 = .ok (.aload_n 0, 1) := by decide +kernel
theorem dL_law_134 : decode cL_law 134 = .ok (.iload 4, 2) := by decide +kernel
theorem dL_law_136 : decode cL_law 136 = .ok (.iconst 3, 1) := by decide +kernel
theorem dL_law_137 : decode cL_law 137 = .ok (.iadd, 1) := by decide +kernel
theorem dL_law_138 : decode cL_law 138 = .ok (.iaload, 1) := by decide +kernel
theorem dL_law_139 : decode cL_law 139 = .ok (.aload_n 3, 1) := by decide +kernel
theorem dL_law_140 : decode cL_law 140 = .ok (.invokestatic 60, 3) := by decide +kernel
theorem dL_law_143 : decode cL_law 143 = .ok (.istore 5, 2) := by decide +kernel
theorem dL_law_145 : decode cL_law 145 = .ok (.aload_n 2, 1) := by decide +kernel
theorem dL_law_146 : decode cL_law 146 = .ok (.aload_n 0, 1) := by decide +kernel
theorem dL_law_147 : decode cL_law 147 = .ok (.iload 4, 2) := by decide +kernel
theorem dL_law_149 : decode cL_law 149 = .ok (.iconst 1, 1) := by decide +kernel
theorem dL_law_150 : decode cL_law 150 = .ok (.iadd, 1) := by decide +kernel
theorem dL_law_151 : decode cL_law 151 = .ok (.iaload, 1) := by decide +kernel
theorem dL_law_152 : decode cL_law 152 = .ok (.aload_n 0, 1) := by decide +kernel
theorem dL_law_153 : decode cL_law 153 = .ok (.iload 4, 2) := by decide +kernel
theorem dL_law_155 : decode cL_law 155 = .ok (.iconst 2, 1) := by decide +kernel
theorem dL_law_156 : decode cL_law 156 = .ok (.iadd, 1) := by decide +kernel
theorem dL_law_157 : decode cL_law 157 = .ok (.iaload, 1) := by decide +kernel
theorem dL_law_158 : decode cL_law 158 = .ok (.aload_n 0, 1) := by decide +kernel
theorem dL_law_159 : decode cL_law 159 = .ok (.iload 4, 2) := by decide +kernel
theorem dL_law_161 : decode cL_law 161 = .ok (.iconst 3, 1) := by decide +kernel
theorem dL_law_162 : decode cL_law 162 = .ok (.iadd, 1) := by decide +kernel
theorem dL_law_163 : decode cL_law 163 = .ok (.iaload, 1) := by decide +kernel
theorem dL_law_164 : decode cL_law 164 = .ok (.invokevirtual 65, 3) := by decide +kernel
theorem dL_law_167 : decode cL_law 167 = .ok (.istore 6, 2) := by decide +kernel
theorem dL_law_169 : decode cL_law 169 = .ok (.aload_n 2, 1) := by decide +kernel
theorem dL_law_170 : decode cL_law 170 = .ok (.invokevirtual 66, 3) := by decide +kernel
theorem dL_law_173 : decode cL_law 173 = .ok (.iload 5, 2) := by decide +kernel
theorem dL_law_175 : decode cL_law 175 = .ok (.if_icmp .eq 5, 3) := by decide +kernel
theorem dL_law_178 : decode cL_law 178 = .ok (.iconst 0, 1) := by decide +kernel
theorem dL_law_179 : decode cL_law 179 = .ok (.ireturn, 1) := by decide +kernel
theorem dL_law_180 : decode cL_law 180 = .ok (.iload 5, 2) := by decide +kernel
theorem dL_law_182 : decode cL_law 182 = .ok (.ifCond .ne 15, 3) := by decide +kernel
theorem dL_law_185 : decode cL_law 185 = .ok (.aload_n 3, 1) := by decide +kernel
theorem dL_law_186 : decode cL_law 186 = .ok (.iconst 0, 1) := by decide +kernel
theorem dL_law_187 : decode cL_law 187 = .ok (.laload, 1) := by decide +kernel
theorem dL_law_188 : decode cL_law 188 = .ok (.iload 6, 2) := by decide +kernel
theorem dL_law_190 : decode cL_law 190 = .ok (.i2l, 1) := by decide +kernel
theorem dL_law_191 : decode cL_law 191 = .ok (.lcmp, 1) := by decide +kernel
theorem dL_law_192 : decode cL_law 192 = .ok (.ifCond .eq 5, 3) := by decide +kernel
theorem dL_law_195 : decode cL_law 195 = .ok (.iconst 0, 1) := by decide +kernel
theorem dL_law_196 : decode cL_law 196 = .ok (.ireturn, 1) := by decide +kernel
theorem dL_law_197 : decode cL_law 197 = .ok (.goto 932, 3) := by decide +kernel
theorem dL_law_200 : decode cL_law 200 = .ok (.aload_n 1, 1) := by decide +kernel
theorem dL_law_201 : decode cL_law 201 = .ok (.aload_n 0, 1) := by decide +kernel
theorem dL_law_202 : decode cL_law 202 = .ok (.iload 4, 2) := by decide +kernel
theorem dL_law_204 : decode cL_law 204 = .ok (.iconst 1, 1) := by decide +kernel
theorem dL_law_205 : decode cL_law 205 = .ok (.iadd, 1) := by decide +kernel
theorem dL_law_206 : decode cL_law 206 = .ok (.iaload, 1) := by decide +kernel
theorem dL_law_207 : decode cL_law 207 = .ok (.aload_n 0, 1) := by decide +kernel
theorem dL_law_208 : decode cL_law 208 = .ok (.iload 4, 2) := by decide +kernel
theorem dL_law_210 : decode cL_law 210 = .ok (.iconst 2, 1) := by decide +kernel
theorem dL_law_211 : decode cL_law 211 = .ok (.iadd, 1) := by decide +kernel
theorem dL_law_212 : decode cL_law 212 = .ok (.iaload, 1) := by decide +kernel
theorem dL_law_213 : decode cL_law 213 = .ok (.aload_n 0, 1) := by decide +kernel
theorem dL_law_214 : decode cL_law 214 = .ok (.iload 4, 2) := by decide +kernel
theorem dL_law_216 : decode cL_law 216 = .ok (.iconst 3, 1) := by decide +kernel
theorem dL_law_217 : decode cL_law 217 = .ok (.iadd, 1) := by decide +kernel
theorem dL_law_218 : decode cL_law 218 = .ok (.iaload, 1) := by decide +kernel
theorem dL_law_219 : decode cL_law 219 = .ok (.aload_n 3, 1) := by decide +kernel
theorem dL_law_220 : decode cL_law 220 = .ok (.invokestatic 70, 3) := by decide +kernel
theorem dL_law_223 : decode cL_law 223 = .ok (.istore 5, 2) := by decide +kernel
theorem dL_law_225 : decode cL_law 225 = .ok (.aload_n 2, 1) := by decide +kernel
theorem dL_law_226 : decode cL_law 226 = .ok (.aload_n 0, 1) := by decide +kernel
theorem dL_law_227 : decode cL_law 227 = .ok (.iload 4, 2) := by decide +kernel
theorem dL_law_229 : decode cL_law 229 = .ok (.iconst 1, 1) := by decide +kernel
theorem dL_law_230 : decode cL_law 230 = .ok (.iadd, 1) := by decide +kernel
theorem dL_law_231 : decode cL_law 231 = .ok (.iaload, 1) := by decide +kernel
theorem dL_law_232 : decode cL_law 232 = .ok (.aload_n 0, 1) := by decide +kernel
theorem dL_law_233 : decode cL_law 233 = .ok (.iload 4, 2) := by decide +kernel
theorem dL_law_235 : decode cL_law 235 = .ok (.iconst 2, 1) := by decide +kernel
theorem dL_law_236 : decode cL_law 236 = .ok (.iadd, 1) := by decide +kernel
theorem dL_law_237 : decode cL_law 237 = .ok (.iaload, 1) := by decide +kernel
theorem dL_law_238 : decode cL_law 238 = .ok (.aload_n 0, 1) := by decide +kernel
theorem dL_law_239 : decode cL_law 239 = .ok (.iload 4, 2) := by decide +kernel
theorem dL_law_241 : decode cL_law 241 = .ok (.iconst 3, 1) := by decide +kernel
theorem dL_law_242 : decode cL_law 242 = .ok (.iadd, 1) := by decide +kernel
theorem dL_law_243 : decode cL_law 243 = .ok (.iaload, 1) := by decide +kernel
theorem dL_law_244 : decode cL_law 244 = .ok (.invokevirtual 72, 3) := by decide +kernel
theorem dL_law_247 : decode cL_law 247 = .ok (.istore 6, 2) := by decide +kernel
theorem dL_law_249 : decode cL_law 249 = .ok (.aload_n 2, 1) := by decide +kernel
theorem dL_law_250 : decode cL_law 250 = .ok (.invokevirtual 66, 3) := by decide +kernel
theorem dL_law_253 : decode cL_law 253 = .ok (.iload 5, 2) := by decide +kernel
theorem dL_law_255 : decode cL_law 255 = .ok (.if_icmp .eq 5, 3) := by decide +kernel
theorem dL_law_258 : decode cL_law 258 = .ok (.iconst 0, 1) := by decide +kernel
theorem dL_law_259 : decode cL_law 259 = .ok (.ireturn, 1) := by decide +kernel
theorem dL_law_260 : decode cL_law 260 = .ok (.iload 5, 2) := by decide +kernel
theorem dL_law_262 : decode cL_law 262 = .ok (.ifCond .ne 15, 3) := by decide +kernel
theorem dL_law_265 : decode cL_law 265 = .ok (.aload_n 3, 1) := by decide +kernel
theorem dL_law_266 : decode cL_law 266 = .ok (.iconst 0, 1) := by decide +kernel
theorem dL_law_267 : decode cL_law 267 = .ok (.laload, 1) := by decide +kernel
theorem dL_law_268 : decode cL_law 268 = .ok (.iload 6, 2) := by decide +kernel
theorem dL_law_270 : decode cL_law 270 = .ok (.i2l, 1) := by decide +kernel
theorem dL_law_271 : decode cL_law 271 = .ok (.lcmp, 1) := by decide +kernel
theorem dL_law_272 : decode cL_law 272 = .ok (.ifCond .eq 5, 3) := by decide +kernel
theorem dL_law_275 : decode cL_law 275 = .ok (.iconst 0, 1) := by decide +kernel
theorem dL_law_276 : decode cL_law 276 = .ok (.ireturn, 1) := by decide +kernel
theorem dL_law_277 : decode cL_law 277 = .ok (.goto 852, 3) := by decide +kernel
theorem dL_law_280 : decode cL_law 280 = .ok (.aload_n 1, 1) := by decide +kernel
theorem dL_law_281 : decode cL_law 281 = .ok (.aload_n 0, 1) := by decide +kernel
theorem dL_law_282 : decode cL_law 282 = .ok (.iload 4, 2) := by decide +kernel
theorem dL_law_284 : decode cL_law 284 = .ok (.iconst 1, 1) := by decide +kernel
theorem dL_law_285 : decode cL_law 285 = .ok (.iadd, 1) := by decide +kernel
theorem dL_law_286 : decode cL_law 286 = .ok (.iaload, 1) := by decide +kernel
theorem dL_law_287 : decode cL_law 287 = .ok (.aload_n 0, 1) := by decide +kernel
theorem dL_law_288 : decode cL_law 288 = .ok (.iload 4, 2) := by decide +kernel
theorem dL_law_290 : decode cL_law 290 = .ok (.iconst 2, 1) := by decide +kernel
theorem dL_law_291 : decode cL_law 291 = .ok (.iadd, 1) := by decide +kernel
theorem dL_law_292 : decode cL_law 292 = .ok (.iaload, 1) := by decide +kernel
theorem dL_law_293 : decode cL_law 293 = .ok (.aload_n 0, 1) := by decide +kernel
theorem dL_law_294 : decode cL_law 294 = .ok (.iload 4, 2) := by decide +kernel
theorem dL_law_296 : decode cL_law 296 = .ok (.iconst 3, 1) := by decide +kernel
theorem dL_law_297 : decode cL_law 297 = .ok (.iadd, 1) := by decide +kernel
theorem dL_law_298 : decode cL_law 298 = .ok (.iaload, 1) := by decide +kernel
theorem dL_law_299 : decode cL_law 299 = .ok (.aload_n 3, 1) := by decide +kernel
theorem dL_law_300 : decode cL_law 300 = .ok (.invokestatic 73, 3) := by decide +kernel
theorem dL_law_303 : decode cL_law 303 = .ok (.istore 5, 2) := by decide +kernel
theorem dL_law_305 : decode cL_law 305 = .ok (.aload_n 2, 1) := by decide +kernel
theorem dL_law_306 : decode cL_law 306 = .ok (.aload_n 0, 1) := by decide +kernel
theorem dL_law_307 : decode cL_law 307 = .ok (.iload 4, 2) := by decide +kernel
theorem dL_law_309 : decode cL_law 309 = .ok (.iconst 1, 1) := by decide +kernel
theorem dL_law_310 : decode cL_law 310 = .ok (.iadd, 1) := by decide +kernel
theorem dL_law_311 : decode cL_law 311 = .ok (.iaload, 1) := by decide +kernel
theorem dL_law_312 : decode cL_law 312 = .ok (.aload_n 0, 1) := by decide +kernel
theorem dL_law_313 : decode cL_law 313 = .ok (.iload 4, 2) := by decide +kernel
theorem dL_law_315 : decode cL_law 315 = .ok (.iconst 2, 1) := by decide +kernel
theorem dL_law_316 : decode cL_law 316 = .ok (.iadd, 1) := by decide +kernel
theorem dL_law_317 : decode cL_law 317 = .ok (.iaload, 1) := by decide +kernel
theorem dL_law_318 : decode cL_law 318 = .ok (.aload_n 0, 1) := by decide +kernel
theorem dL_law_319 : decode cL_law 319 = .ok (.iload 4, 2) := by decide +kernel
theorem dL_law_321 : decode cL_law 321 = .ok (.iconst 3, 1) := by decide +kernel
theorem dL_law_322 : decode cL_law 322 = .ok (.iadd, 1) := by decide +kernel
theorem dL_law_323 : decode cL_law 323 = .ok (.iaload, 1) := by decide +kernel
theorem dL_law_324 : decode cL_law 324 = .ok (.invokevirtual 75, 3) := by decide +kernel
theorem dL_law_327 : decode cL_law 327 = .ok (.istore 6, 2) := by decide +kernel
theorem dL_law_329 : decode cL_law 329 = .ok (.aload_n 2, 1) := by decide +kernel
theorem dL_law_330 : decode cL_law 330 = .ok (.invokevirtual 66, 3) := by decide +kernel
theorem dL_law_333 : decode cL_law 333 = .ok (.iload 5, 2) := by decide +kernel
theorem dL_law_335 : decode cL_law 335 = .ok (.if_icmp .eq 5, 3) := by decide +kernel
theorem dL_law_338 : decode cL_law 338 = .ok (.iconst 0, 1) := by decide +kernel
theorem dL_law_339 : decode cL_law 339 = .ok (.ireturn, 1) := by decide +kernel
theorem dL_law_340 : decode cL_law 340 = .ok (.iload 5, 2) := by decide +kernel
theorem dL_law_342 : decode cL_law 342 = .ok (.ifCond .ne 15, 3) := by decide +kernel
theorem dL_law_345 : decode cL_law 345 = .ok (.aload_n 3, 1) := by decide +kernel
theorem dL_law_346 : decode cL_law 346 = .ok (.iconst 0, 1) := by decide +kernel
theorem dL_law_347 : decode cL_law 347 = .ok (.laload, 1) := by decide +kernel
theorem dL_law_348 : decode cL_law 348 = .ok (.iload 6, 2) := by decide +kernel
theorem dL_law_350 : decode cL_law 350 = .ok (.i2l, 1) := by decide +kernel
theorem dL_law_351 : decode cL_law 351 = .ok (.lcmp, 1) := by decide +kernel
theorem dL_law_352 : decode cL_law 352 = .ok (.ifCond .eq 5, 3) := by decide +kernel
theorem dL_law_355 : decode cL_law 355 = .ok (.iconst 0, 1) := by decide +kernel
theorem dL_law_356 : decode cL_law 356 = .ok (.ireturn, 1) := by decide +kernel
theorem dL_law_357 : decode cL_law 357 = .ok (.goto 772, 3) := by decide +kernel
theorem dL_law_360 : decode cL_law 360 = .ok (.aload_n 1, 1) := by decide +kernel
theorem dL_law_361 : decode cL_law 361 = .ok (.aload_n 0, 1) := by decide +kernel
theorem dL_law_362 : decode cL_law 362 = .ok (.iload 4, 2) := by decide +kernel
theorem dL_law_364 : decode cL_law 364 = .ok (.iconst 1, 1) := by decide +kernel
theorem dL_law_365 : decode cL_law 365 = .ok (.iadd, 1) := by decide +kernel
theorem dL_law_366 : decode cL_law 366 = .ok (.iaload, 1) := by decide +kernel
theorem dL_law_367 : decode cL_law 367 = .ok (.aload_n 0, 1) := by decide +kernel
theorem dL_law_368 : decode cL_law 368 = .ok (.iload 4, 2) := by decide +kernel
theorem dL_law_370 : decode cL_law 370 = .ok (.iconst 2, 1) := by decide +kernel
theorem dL_law_371 : decode cL_law 371 = .ok (.iadd, 1) := by decide +kernel
theorem dL_law_372 : decode cL_law 372 = .ok (.iaload, 1) := by decide +kernel
theorem dL_law_373 : decode cL_law 373 = .ok (.aload_n 0, 1) := by decide +kernel
theorem dL_law_374 : decode cL_law 374 = .ok (.iload 4, 2) := by decide +kernel
theorem dL_law_376 : decode cL_law 376 = .ok (.iconst 3, 1) := by decide +kernel
theorem dL_law_377 : decode cL_law 377 = .ok (.iadd, 1) := by decide +kernel
theorem dL_law_378 : decode cL_law 378 = .ok (.iaload, 1) := by decide +kernel
theorem dL_law_379 : decode cL_law 379 = .ok (.aload_n 3, 1) := by decide +kernel
theorem dL_law_380 : decode cL_law 380 = .ok (.invokestatic 76, 3) := by decide +kernel
theorem dL_law_383 : decode cL_law 383 = .ok (.istore 5, 2) := by decide +kernel
theorem dL_law_385 : decode cL_law 385 = .ok (.aload_n 2, 1) := by decide +kernel
theorem dL_law_386 : decode cL_law 386 = .ok (.aload_n 0, 1) := by decide +kernel
theorem dL_law_387 : decode cL_law 387 = .ok (.iload 4, 2) := by decide +kernel
theorem dL_law_389 : decode cL_law 389 = .ok (.iconst 1, 1) := by decide +kernel
theorem dL_law_390 : decode cL_law 390 = .ok (.iadd, 1) := by decide +kernel
theorem dL_law_391 : decode cL_law 391 = .ok (.iaload, 1) := by decide +kernel
theorem dL_law_392 : decode cL_law 392 = .ok (.aload_n 0, 1) := by decide +kernel
theorem dL_law_393 : decode cL_law 393 = .ok (.iload 4, 2) := by decide +kernel
theorem dL_law_395 : decode cL_law 395 = .ok (.iconst 2, 1) := by decide +kernel
theorem dL_law_396 : decode cL_law 396 = .ok (.iadd, 1) := by decide +kernel
theorem dL_law_397 : decode cL_law 397 = .ok (.iaload, 1) := by decide +kernel
theorem dL_law_398 : decode cL_law 398 = .ok (.aload_n 0, 1) := by decide +kernel
theorem dL_law_399 : decode cL_law 399 = .ok (.iload 4, 2) := by decide +kernel
theorem dL_law_401 : decode cL_law 401 = .ok (.iconst 3, 1) := by decide +kernel
theorem dL_law_402 : decode cL_law 402 = .ok (.iadd, 1) := by decide +kernel
theorem dL_law_403 : decode cL_law 403 = .ok (.iaload, 1) := by decide +kernel
theorem dL_law_404 : decode cL_law 404 = .ok (.invokevirtual 78, 3) := by decide +kernel
theorem dL_law_407 : decode cL_law 407 = .ok (.istore 6, 2) := by decide +kernel
theorem dL_law_409 : decode cL_law 409 = .ok (.aload_n 2, 1) := by decide +kernel
theorem dL_law_410 : decode cL_law 410 = .ok (.invokevirtual 66, 3) := by decide +kernel
theorem dL_law_413 : decode cL_law 413 = .ok (.iload 5, 2) := by decide +kernel
theorem dL_law_415 : decode cL_law 415 = .ok (.if_icmp .eq 5, 3) := by decide +kernel
theorem dL_law_418 : decode cL_law 418 = .ok (.iconst 0, 1) := by decide +kernel
theorem dL_law_419 : decode cL_law 419 = .ok (.ireturn, 1) := by decide +kernel
theorem dL_law_420 : decode cL_law 420 = .ok (.iload 5, 2) := by decide +kernel
theorem dL_law_422 : decode cL_law 422 = .ok (.ifCond .ne 15, 3) := by decide +kernel
theorem dL_law_425 : decode cL_law 425 = .ok (.aload_n 3, 1) := by decide +kernel
theorem dL_law_426 : decode cL_law 426 = .ok (.iconst 0, 1) := by decide +kernel
theorem dL_law_427 : decode cL_law 427 = .ok (.laload, 1) := by decide +kernel
theorem dL_law_428 : decode cL_law 428 = .ok (.iload 6, 2) := by decide +kernel
theorem dL_law_430 : decode cL_law 430 = .ok (.i2l, 1) := by decide +kernel
theorem dL_law_431 : decode cL_law 431 = .ok (.lcmp, 1) := by decide +kernel
theorem dL_law_432 : decode cL_law 432 = .ok (.ifCond .eq 5, 3) := by decide +kernel
theorem dL_law_435 : decode cL_law 435 = .ok (.iconst 0, 1) := by decide +kernel
theorem dL_law_436 : decode cL_law 436 = .ok (.ireturn, 1) := by decide +kernel
theorem dL_law_437 : decode cL_law 437 = .ok (.goto 692, 3) := by decide +kernel
theorem dL_law_440 : decode cL_law 440 = .ok (.aload_n 1, 1) := by decide +kernel
theorem dL_law_441 : decode cL_law 441 = .ok (.aload_n 0, 1) := by decide +kernel
theorem dL_law_442 : decode cL_law 442 = .ok (.iload 4, 2) := by decide +kernel
theorem dL_law_444 : decode cL_law 444 = .ok (.iconst 1, 1) := by decide +kernel
theorem dL_law_445 : decode cL_law 445 = .ok (.iadd, 1) := by decide +kernel
theorem dL_law_446 : decode cL_law 446 = .ok (.iaload, 1) := by decide +kernel
theorem dL_law_447 : decode cL_law 447 = .ok (.aload_n 0, 1) := by decide +kernel
theorem dL_law_448 : decode cL_law 448 = .ok (.iload 4, 2) := by decide +kernel
theorem dL_law_450 : decode cL_law 450 = .ok (.iconst 2, 1) := by decide +kernel
theorem dL_law_451 : decode cL_law 451 = .ok (.iadd, 1) := by decide +kernel
theorem dL_law_452 : decode cL_law 452 = .ok (.iaload, 1) := by decide +kernel
theorem dL_law_453 : decode cL_law 453 = .ok (.aload_n 3, 1) := by decide +kernel
theorem dL_law_454 : decode cL_law 454 = .ok (.invokestatic 79, 3) := by decide +kernel
theorem dL_law_457 : decode cL_law 457 = .ok (.istore 5, 2) := by decide +kernel
theorem dL_law_459 : decode cL_law 459 = .ok (.aload_n 2, 1) := by decide +kernel
theorem dL_law_460 : decode cL_law 460 = .ok (.aload_n 0, 1) := by decide +kernel
theorem dL_law_461 : decode cL_law 461 = .ok (.iload 4, 2) := by decide +kernel
theorem dL_law_463 : decode cL_law 463 = .ok (.iconst 1, 1) := by decide +kernel
theorem dL_law_464 : decode cL_law 464 = .ok (.iadd, 1) := by decide +kernel
theorem dL_law_465 : decode cL_law 465 = .ok (.iaload, 1) := by decide +kernel
theorem dL_law_466 : decode cL_law 466 = .ok (.aload_n 0, 1) := by decide +kernel
theorem dL_law_467 : decode cL_law 467 = .ok (.iload 4, 2) := by decide +kernel
theorem dL_law_469 : decode cL_law 469 = .ok (.iconst 2, 1) := by decide +kernel
theorem dL_law_470 : decode cL_law 470 = .ok (.iadd, 1) := by decide +kernel
theorem dL_law_471 : decode cL_law 471 = .ok (.iaload, 1) := by decide +kernel
theorem dL_law_472 : decode cL_law 472 = .ok (.invokevirtual 82, 3) := by decide +kernel
theorem dL_law_475 : decode cL_law 475 = .ok (.istore 6, 2) := by decide +kernel
theorem dL_law_477 : decode cL_law 477 = .ok (.aload_n 2, 1) := by decide +kernel
theorem dL_law_478 : decode cL_law 478 = .ok (.invokevirtual 66, 3) := by decide +kernel
theorem dL_law_481 : decode cL_law 481 = .ok (.iload 5, 2) := by decide +kernel
theorem dL_law_483 : decode cL_law 483 = .ok (.if_icmp .eq 5, 3) := by decide +kernel
theorem dL_law_486 : decode cL_law 486 = .ok (.iconst 0, 1) := by decide +kernel
theorem dL_law_487 : decode cL_law 487 = .ok (.ireturn, 1) := by decide +kernel
theorem dL_law_488 : decode cL_law 488 = .ok (.iload 5, 2) := by decide +kernel
theorem dL_law_490 : decode cL_law 490 = .ok (.ifCond .ne 15, 3) := by decide +kernel
theorem dL_law_493 : decode cL_law 493 = .ok (.aload_n 3, 1) := by decide +kernel
theorem dL_law_494 : decode cL_law 494 = .ok (.iconst 0, 1) := by decide +kernel
theorem dL_law_495 : decode cL_law 495 = .ok (.laload, 1) := by decide +kernel
theorem dL_law_496 : decode cL_law 496 = .ok (.iload 6, 2) := by decide +kernel
theorem dL_law_498 : decode cL_law 498 = .ok (.i2l, 1) := by decide +kernel
theorem dL_law_499 : decode cL_law 499 = .ok (.lcmp, 1) := by decide +kernel
theorem dL_law_500 : decode cL_law 500 = .ok (.ifCond .eq 5, 3) := by decide +kernel
theorem dL_law_503 : decode cL_law 503 = .ok (.iconst 0, 1) := by decide +kernel
theorem dL_law_504 : decode cL_law 504 = .ok (.ireturn, 1) := by decide +kernel
theorem dL_law_505 : decode cL_law 505 = .ok (.goto 624, 3) := by decide +kernel
theorem dL_law_508 : decode cL_law 508 = .ok (.aload_n 1, 1) := by decide +kernel
theorem dL_law_509 : decode cL_law 509 = .ok (.aload_n 0, 1) := by decide +kernel
theorem dL_law_510 : decode cL_law 510 = .ok (.iload 4, 2) := by decide +kernel
theorem dL_law_512 : decode cL_law 512 = .ok (.iconst 1, 1) := by decide +kernel
theorem dL_law_513 : decode cL_law 513 = .ok (.iadd, 1) := by decide +kernel
theorem dL_law_514 : decode cL_law 514 = .ok (.iaload, 1) := by decide +kernel
theorem dL_law_515 : decode cL_law 515 = .ok (.aload_n 0, 1) := by decide +kernel
theorem dL_law_516 : decode cL_law 516 = .ok (.iload 4, 2) := by decide +kernel
theorem dL_law_518 : decode cL_law 518 = .ok (.iconst 2, 1) := by decide +kernel
theorem dL_law_519 : decode cL_law 519 = .ok (.iadd, 1) := by decide +kernel
theorem dL_law_520 : decode cL_law 520 = .ok (.iaload, 1) := by decide +kernel
theorem dL_law_521 : decode cL_law 521 = .ok (.aload_n 0, 1) := by decide +kernel
theorem dL_law_522 : decode cL_law 522 = .ok (.iload 4, 2) := by decide +kernel
theorem dL_law_524 : decode cL_law 524 = .ok (.iconst 3, 1) := by decide +kernel
theorem dL_law_525 : decode cL_law 525 = .ok (.iadd, 1) := by decide +kernel
theorem dL_law_526 : decode cL_law 526 = .ok (.iaload, 1) := by decide +kernel
theorem dL_law_527 : decode cL_law 527 = .ok (.aload_n 3, 1) := by decide +kernel
theorem dL_law_528 : decode cL_law 528 = .ok (.invokestatic 83, 3) := by decide +kernel
theorem dL_law_531 : decode cL_law 531 = .ok (.istore 5, 2) := by decide +kernel
theorem dL_law_533 : decode cL_law 533 = .ok (.aload_n 2, 1) := by decide +kernel
theorem dL_law_534 : decode cL_law 534 = .ok (.aload_n 0, 1) := by decide +kernel
theorem dL_law_535 : decode cL_law 535 = .ok (.iload 4, 2) := by decide +kernel
theorem dL_law_537 : decode cL_law 537 = .ok (.iconst 1, 1) := by decide +kernel
theorem dL_law_538 : decode cL_law 538 = .ok (.iadd, 1) := by decide +kernel
theorem dL_law_539 : decode cL_law 539 = .ok (.iaload, 1) := by decide +kernel
theorem dL_law_540 : decode cL_law 540 = .ok (.aload_n 0, 1) := by decide +kernel
theorem dL_law_541 : decode cL_law 541 = .ok (.iload 4, 2) := by decide +kernel
theorem dL_law_543 : decode cL_law 543 = .ok (.iconst 2, 1) := by decide +kernel
theorem dL_law_544 : decode cL_law 544 = .ok (.iadd, 1) := by decide +kernel
theorem dL_law_545 : decode cL_law 545 = .ok (.iaload, 1) := by decide +kernel
theorem dL_law_546 : decode cL_law 546 = .ok (.aload_n 0, 1) := by decide +kernel
theorem dL_law_547 : decode cL_law 547 = .ok (.iload 4, 2) := by decide +kernel
theorem dL_law_549 : decode cL_law 549 = .ok (.iconst 3, 1) := by decide +kernel
theorem dL_law_550 : decode cL_law 550 = .ok (.iadd, 1) := by decide +kernel
theorem dL_law_551 : decode cL_law 551 = .ok (.iaload, 1) := by decide +kernel
theorem dL_law_552 : decode cL_law 552 = .ok (.invokevirtual 85, 3) := by decide +kernel
theorem dL_law_555 : decode cL_law 555 = .ok (.istore 6, 2) := by decide +kernel
theorem dL_law_557 : decode cL_law 557 = .ok (.aload_n 2, 1) := by decide +kernel
theorem dL_law_558 : decode cL_law 558 = .ok (.invokevirtual 66, 3) := by decide +kernel
theorem dL_law_561 : decode cL_law 561 = .ok (.iload 5, 2) := by decide +kernel
theorem dL_law_563 : decode cL_law 563 = .ok (.if_icmp .eq 5, 3) := by decide +kernel
theorem dL_law_566 : decode cL_law 566 = .ok (.iconst 0, 1) := by decide +kernel
theorem dL_law_567 : decode cL_law 567 = .ok (.ireturn, 1) := by decide +kernel
theorem dL_law_568 : decode cL_law 568 = .ok (.iload 5, 2) := by decide +kernel
theorem dL_law_570 : decode cL_law 570 = .ok (.ifCond .ne 15, 3) := by decide +kernel
theorem dL_law_573 : decode cL_law 573 = .ok (.aload_n 3, 1) := by decide +kernel
theorem dL_law_574 : decode cL_law 574 = .ok (.iconst 0, 1) := by decide +kernel
theorem dL_law_575 : decode cL_law 575 = .ok (.laload, 1) := by decide +kernel
theorem dL_law_576 : decode cL_law 576 = .ok (.iload 6, 2) := by decide +kernel
theorem dL_law_578 : decode cL_law 578 = .ok (.i2l, 1) := by decide +kernel
theorem dL_law_579 : decode cL_law 579 = .ok (.lcmp, 1) := by decide +kernel
theorem dL_law_580 : decode cL_law 580 = .ok (.ifCond .eq 5, 3) := by decide +kernel
theorem dL_law_583 : decode cL_law 583 = .ok (.iconst 0, 1) := by decide +kernel
theorem dL_law_584 : decode cL_law 584 = .ok (.ireturn, 1) := by decide +kernel
theorem dL_law_585 : decode cL_law 585 = .ok (.goto 544, 3) := by decide +kernel
theorem dL_law_588 : decode cL_law 588 = .ok (.aload_n 1, 1) := by decide +kernel
theorem dL_law_589 : decode cL_law 589 = .ok (.aload_n 0, 1) := by decide +kernel
theorem dL_law_590 : decode cL_law 590 = .ok (.iload 4, 2) := by decide +kernel
theorem dL_law_592 : decode cL_law 592 = .ok (.iconst 1, 1) := by decide +kernel
theorem dL_law_593 : decode cL_law 593 = .ok (.iadd, 1) := by decide +kernel
theorem dL_law_594 : decode cL_law 594 = .ok (.iaload, 1) := by decide +kernel
theorem dL_law_595 : decode cL_law 595 = .ok (.aload_n 0, 1) := by decide +kernel
theorem dL_law_596 : decode cL_law 596 = .ok (.iload 4, 2) := by decide +kernel
theorem dL_law_598 : decode cL_law 598 = .ok (.iconst 2, 1) := by decide +kernel
theorem dL_law_599 : decode cL_law 599 = .ok (.iadd, 1) := by decide +kernel
theorem dL_law_600 : decode cL_law 600 = .ok (.iaload, 1) := by decide +kernel
theorem dL_law_601 : decode cL_law 601 = .ok (.ifCond .eq 7, 3) := by decide +kernel
theorem dL_law_604 : decode cL_law 604 = .ok (.iconst 1, 1) := by decide +kernel
theorem dL_law_605 : decode cL_law 605 = .ok (.goto 4, 3) := by decide +kernel
theorem dL_law_608 : decode cL_law 608 = .ok (.iconst 0, 1) := by decide +kernel
theorem dL_law_609 : decode cL_law 609 = .ok (.aload_n 3, 1) := by decide +kernel
theorem dL_law_610 : decode cL_law 610 = .ok (.invokestatic 86, 3) := by decide +kernel
theorem dL_law_613 : decode cL_law 613 = .ok (.istore 5, 2) := by decide +kernel
theorem dL_law_615 : decode cL_law 615 = .ok (.aload_n 2, 1) := by decide +kernel
theorem dL_law_616 : decode cL_law 616 = .ok (.aload_n 0, 1) := by decide +kernel
theorem dL_law_617 : decode cL_law 617 = .ok (.iload 4, 2) := by decide +kernel
theorem dL_law_619 : decode cL_law 619 = .ok (.iconst 1, 1) := by decide +kernel
theorem dL_law_620 : decode cL_law 620 = .ok (.iadd, 1) := by decide +kernel
theorem dL_law_621 : decode cL_law 621 = .ok (.iaload, 1) := by decide +kernel
theorem dL_law_622 : decode cL_law 622 = .ok (.aload_n 0, 1) := by decide +kernel
theorem dL_law_623 : decode cL_law 623 = .ok (.iload 4, 2) := by decide +kernel
theorem dL_law_625 : decode cL_law 625 = .ok (.iconst 2, 1) := by decide +kernel
theorem dL_law_626 : decode cL_law 626 = .ok (.iadd, 1) := by decide +kernel
theorem dL_law_627 : decode cL_law 627 = .ok (.iaload, 1) := by decide +kernel
theorem dL_law_628 : decode cL_law 628 = .ok (.ifCond .eq 7, 3) := by decide +kernel
theorem dL_law_631 : decode cL_law 631 = .ok (.iconst 1, 1) := by decide +kernel
theorem dL_law_632 : decode cL_law 632 = .ok (.goto 4, 3) := by decide +kernel
theorem dL_law_635 : decode cL_law 635 = .ok (.iconst 0, 1) := by decide +kernel
theorem dL_law_636 : decode cL_law 636 = .ok (.invokevirtual 89, 3) := by decide +kernel
theorem dL_law_639 : decode cL_law 639 = .ok (.istore 6, 2) := by decide +kernel
theorem dL_law_641 : decode cL_law 641 = .ok (.aload_n 2, 1) := by decide +kernel
theorem dL_law_642 : decode cL_law 642 = .ok (.invokevirtual 66, 3) := by decide +kernel
theorem dL_law_645 : decode cL_law 645 = .ok (.iload 5, 2) := by decide +kernel
theorem dL_law_647 : decode cL_law 647 = .ok (.if_icmp .eq 5, 3) := by decide +kernel
theorem dL_law_650 : decode cL_law 650 = .ok (.iconst 0, 1) := by decide +kernel
theorem dL_law_651 : decode cL_law 651 = .ok (.ireturn, 1) := by decide +kernel
theorem dL_law_652 : decode cL_law 652 = .ok (.iload 5, 2) := by decide +kernel
theorem dL_law_654 : decode cL_law 654 = .ok (.ifCond .ne 15, 3) := by decide +kernel
theorem dL_law_657 : decode cL_law 657 = .ok (.aload_n 3, 1) := by decide +kernel
theorem dL_law_658 : decode cL_law 658 = .ok (.iconst 0, 1) := by decide +kernel
theorem dL_law_659 : decode cL_law 659 = .ok (.laload, 1) := by decide +kernel
theorem dL_law_660 : decode cL_law 660 = .ok (.iload 6, 2) := by decide +kernel
theorem dL_law_662 : decode cL_law 662 = .ok (.i2l, 1) := by decide +kernel
theorem dL_law_663 : decode cL_law 663 = .ok (.lcmp, 1) := by decide +kernel
theorem dL_law_664 : decode cL_law 664 = .ok (.ifCond .eq 5, 3) := by decide +kernel
theorem dL_law_667 : decode cL_law 667 = .ok (.iconst 0, 1) := by decide +kernel
theorem dL_law_668 : decode cL_law 668 = .ok (.ireturn, 1) := by decide +kernel
theorem dL_law_669 : decode cL_law 669 = .ok (.goto 460, 3) := by decide +kernel
theorem dL_law_672 : decode cL_law 672 = .ok (.aload_n 1, 1) := by decide +kernel
theorem dL_law_673 : decode cL_law 673 = .ok (.aload_n 0, 1) := by decide +kernel
theorem dL_law_674 : decode cL_law 674 = .ok (.iload 4, 2) := by decide +kernel
theorem dL_law_676 : decode cL_law 676 = .ok (.iconst 1, 1) := by decide +kernel
theorem dL_law_677 : decode cL_law 677 = .ok (.iadd, 1) := by decide +kernel
theorem dL_law_678 : decode cL_law 678 = .ok (.iaload, 1) := by decide +kernel
theorem dL_law_679 : decode cL_law 679 = .ok (.ifCond .eq 7, 3) := by decide +kernel
theorem dL_law_682 : decode cL_law 682 = .ok (.iconst 1, 1) := by decide +kernel
theorem dL_law_683 : decode cL_law 683 = .ok (.goto 4, 3) := by decide +kernel
theorem dL_law_686 : decode cL_law 686 = .ok (.iconst 0, 1) := by decide +kernel
theorem dL_law_687 : decode cL_law 687 = .ok (.invokevirtual 90, 3) := by decide +kernel
theorem dL_law_690 : decode cL_law 690 = .ok (.aload_n 2, 1) := by decide +kernel
theorem dL_law_691 : decode cL_law 691 = .ok (.aload_n 0, 1) := by decide +kernel
theorem dL_law_692 : decode cL_law 692 = .ok (.iload 4, 2) := by decide +kernel
theorem dL_law_694 : decode cL_law 694 = .ok (.iconst 1, 1) := by decide +kernel
theorem dL_law_695 : decode cL_law 695 = .ok (.iadd, 1) := by decide +kernel
theorem dL_law_696 : decode cL_law 696 = .ok (.iaload, 1) := by decide +kernel
theorem dL_law_697 : decode cL_law 697 = .ok (.ifCond .eq 7, 3) := by decide +kernel
theorem dL_law_700 : decode cL_law 700 = .ok (.iconst 1, 1) := by decide +kernel
theorem dL_law_701 : decode cL_law 701 = .ok (.goto 4, 3) := by decide +kernel
theorem dL_law_704 : decode cL_law 704 = .ok (.iconst 0, 1) := by decide +kernel
theorem dL_law_705 : decode cL_law 705 = .ok (.invokevirtual 94, 3) := by decide +kernel
theorem dL_law_708 : decode cL_law 708 = .ok (.if_icmp .eq 421, 3) := by decide +kernel
theorem dL_law_711 : decode cL_law 711 = .ok (.iconst 0, 1) := by decide +kernel
theorem dL_law_712 : decode cL_law 712 = .ok (.ireturn, 1) := by decide +kernel
theorem dL_law_713 : decode cL_law 713 = .ok (.aload_n 1, 1) := by decide +kernel
theorem dL_law_714 : decode cL_law 714 = .ok (.aload_n 0, 1) := by decide +kernel
theorem dL_law_715 : decode cL_law 715 = .ok (.iload 4, 2) := by decide +kernel
theorem dL_law_717 : decode cL_law 717 = .ok (.iconst 1, 1) := by decide +kernel
theorem dL_law_718 : decode cL_law 718 = .ok (.iadd, 1) := by decide +kernel
theorem dL_law_719 : decode cL_law 719 = .ok (.iaload, 1) := by decide +kernel
theorem dL_law_720 : decode cL_law 720 = .ok (.aload_n 3, 1) := by decide +kernel
theorem dL_law_721 : decode cL_law 721 = .ok (.invokestatic 95, 3) := by decide +kernel
theorem dL_law_724 : decode cL_law 724 = .ok (.istore 5, 2) := by decide +kernel
theorem dL_law_726 : decode cL_law 726 = .ok (.aload_n 2, 1) := by decide +kernel
theorem dL_law_727 : decode cL_law 727 = .ok (.aload_n 0, 1) := by decide +kernel
theorem dL_law_728 : decode cL_law 728 = .ok (.iload 4, 2) := by decide +kernel
theorem dL_law_730 : decode cL_law 730 = .ok (.iconst 1, 1) := by decide +kernel
theorem dL_law_731 : decode cL_law 731 = .ok (.iadd, 1) := by decide +kernel
theorem dL_law_732 : decode cL_law 732 = .ok (.iaload, 1) := by decide +kernel
theorem dL_law_733 : decode cL_law 733 = .ok (.invokevirtual 98, 3) := by decide +kernel
theorem dL_law_736 : decode cL_law 736 = .ok (.istore 6, 2) := by decide +kernel
theorem dL_law_738 : decode cL_law 738 = .ok (.aload_n 2, 1) := by decide +kernel
theorem dL_law_739 : decode cL_law 739 = .ok (.invokevirtual 66, 3) := by decide +kernel
theorem dL_law_742 : decode cL_law 742 = .ok (.iload 5, 2) := by decide +kernel
theorem dL_law_744 : decode cL_law 744 = .ok (.if_icmp .eq 5, 3) := by decide +kernel
theorem dL_law_747 : decode cL_law 747 = .ok (.iconst 0, 1) := by decide +kernel
theorem dL_law_748 : decode cL_law 748 = .ok (.ireturn, 1) := by decide +kernel
theorem dL_law_749 : decode cL_law 749 = .ok (.iload 5, 2) := by decide +kernel
theorem dL_law_751 : decode cL_law 751 = .ok (.ifCond .ne 15, 3) := by decide +kernel
theorem dL_law_754 : decode cL_law 754 = .ok (.aload_n 3, 1) := by decide +kernel
theorem dL_law_755 : decode cL_law 755 = .ok (.iconst 0, 1) := by decide +kernel
theorem dL_law_756 : decode cL_law 756 = .ok (.laload, 1) := by decide +kernel
theorem dL_law_757 : decode cL_law 757 = .ok (.iload 6, 2) := by decide +kernel
theorem dL_law_759 : decode cL_law 759 = .ok (.i2l, 1) := by decide +kernel
theorem dL_law_760 : decode cL_law 760 = .ok (.lcmp, 1) := by decide +kernel
theorem dL_law_761 : decode cL_law 761 = .ok (.ifCond .eq 5, 3) := by decide +kernel
theorem dL_law_764 : decode cL_law 764 = .ok (.iconst 0, 1) := by decide +kernel
theorem dL_law_765 : decode cL_law 765 = .ok (.ireturn, 1) := by decide +kernel
theorem dL_law_766 : decode cL_law 766 = .ok (.goto 363, 3) := by decide +kernel
theorem dL_law_769 : decode cL_law 769 = .ok (.aload_n 1, 1) := by decide +kernel
theorem dL_law_770 : decode cL_law 770 = .ok (.aload_n 0, 1) := by decide +kernel
theorem dL_law_771 : decode cL_law 771 = .ok (.iload 4, 2) := by decide +kernel
theorem dL_law_773 : decode cL_law 773 = .ok (.iconst 1, 1) := by decide +kernel
theorem dL_law_774 : decode cL_law 774 = .ok (.iadd, 1) := by decide +kernel
theorem dL_law_775 : decode cL_law 775 = .ok (.iaload, 1) := by decide +kernel
theorem dL_law_776 : decode cL_law 776 = .ok (.aload_n 3, 1) := by decide +kernel
theorem dL_law_777 : decode cL_law 777 = .ok (.invokestatic 99, 3) := by decide +kernel
theorem dL_law_780 : decode cL_law 780 = .ok (.istore 5, 2) := by decide +kernel
theorem dL_law_782 : decode cL_law 782 = .ok (.aload_n 2, 1) := by decide +kernel
theorem dL_law_783 : decode cL_law 783 = .ok (.aload_n 0, 1) := by decide +kernel
theorem dL_law_784 : decode cL_law 784 = .ok (.iload 4, 2) := by decide +kernel
theorem dL_law_786 : decode cL_law 786 = .ok (.iconst 1, 1) := by decide +kernel
theorem dL_law_787 : decode cL_law 787 = .ok (.iadd, 1) := by decide +kernel
theorem dL_law_788 : decode cL_law 788 = .ok (.iaload, 1) := by decide +kernel
theorem dL_law_789 : decode cL_law 789 = .ok (.invokevirtual 101, 3) := by decide +kernel
theorem dL_law_792 : decode cL_law 792 = .ok (.istore 6, 2) := by decide +kernel
theorem dL_law_794 : decode cL_law 794 = .ok (.aload_n 2, 1) := by decide +kernel
theorem dL_law_795 : decode cL_law 795 = .ok (.invokevirtual 66, 3) := by decide +kernel
theorem dL_law_798 : decode cL_law 798 = .ok (.iload 5, 2) := by decide +kernel
theorem dL_law_800 : decode cL_law 800 = .ok (.if_icmp .eq 5, 3) := by decide +kernel
theorem dL_law_803 : decode cL_law 803 = .ok (.iconst 0, 1) := by decide +kernel
theorem dL_law_804 : decode cL_law 804 = .ok (.ireturn, 1) := by decide +kernel
theorem dL_law_805 : decode cL_law 805 = .ok (.iload 5, 2) := by decide +kernel
theorem dL_law_807 : decode cL_law 807 = .ok (.ifCond .ne 15, 3) := by decide +kernel
theorem dL_law_810 : decode cL_law 810 = .ok (.aload_n 3, 1) := by decide +kernel
theorem dL_law_811 : decode cL_law 811 = .ok (.iconst 0, 1) := by decide +kernel
theorem dL_law_812 : decode cL_law 812 = .ok (.laload, 1) := by decide +kernel
theorem dL_law_813 : decode cL_law 813 = .ok (.iload 6, 2) := by decide +kernel
theorem dL_law_815 : decode cL_law 815 = .ok (.i2l, 1) := by decide +kernel
theorem dL_law_816 : decode cL_law 816 = .ok (.lcmp, 1) := by decide +kernel
theorem dL_law_817 : decode cL_law 817 = .ok (.ifCond .eq 5, 3) := by decide +kernel
theorem dL_law_820 : decode cL_law 820 = .ok (.iconst 0, 1) := by decide +kernel
theorem dL_law_821 : decode cL_law 821 = .ok (.ireturn, 1) := by decide +kernel
theorem dL_law_822 : decode cL_law 822 = .ok (.goto 307, 3) := by decide +kernel
theorem dL_law_825 : decode cL_law 825 = .ok (.aload_n 1, 1) := by decide +kernel
theorem dL_law_826 : decode cL_law 826 = .ok (.aload_n 0, 1) := by decide +kernel
theorem dL_law_827 : decode cL_law 827 = .ok (.iload 4, 2) := by decide +kernel
theorem dL_law_829 : decode cL_law 829 = .ok (.iconst 1, 1) := by decide +kernel
theorem dL_law_830 : decode cL_law 830 = .ok (.iadd, 1) := by decide +kernel
theorem dL_law_831 : decode cL_law 831 = .ok (.iaload, 1) := by decide +kernel
theorem dL_law_832 : decode cL_law 832 = .ok (.aload_n 3, 1) := by decide +kernel
theorem dL_law_833 : decode cL_law 833 = .ok (.invokestatic 102, 3) := by decide +kernel
theorem dL_law_836 : decode cL_law 836 = .ok (.istore 5, 2) := by decide +kernel
theorem dL_law_838 : decode cL_law 838 = .ok (.aload_n 2, 1) := by decide +kernel
theorem dL_law_839 : decode cL_law 839 = .ok (.aload_n 0, 1) := by decide +kernel
theorem dL_law_840 : decode cL_law 840 = .ok (.iload 4, 2) := by decide +kernel
theorem dL_law_842 : decode cL_law 842 = .ok (.iconst 1, 1) := by decide +kernel
theorem dL_law_843 : decode cL_law 843 = .ok (.iadd, 1) := by decide +kernel
theorem dL_law_844 : decode cL_law 844 = .ok (.iaload, 1) := by decide +kernel
theorem dL_law_845 : decode cL_law 845 = .ok (.invokevirtual 104, 3) := by decide +kernel
theorem dL_law_848 : decode cL_law 848 = .ok (.istore 6, 2) := by decide +kernel
theorem dL_law_850 : decode cL_law 850 = .ok (.aload_n 2, 1) := by decide +kernel
theorem dL_law_851 : decode cL_law 851 = .ok (.invokevirtual 66, 3) := by decide +kernel
theorem dL_law_854 : decode cL_law 854 = .ok (.iload 5, 2) := by decide +kernel
theorem dL_law_856 : decode cL_law 856 = .ok (.if_icmp .eq 5, 3) := by decide +kernel
theorem dL_law_859 : decode cL_law 859 = .ok (.iconst 0, 1) := by decide +kernel
theorem dL_law_860 : decode cL_law 860 = .ok (.ireturn, 1) := by decide +kernel
theorem dL_law_861 : decode cL_law 861 = .ok (.iload 5, 2) := by decide +kernel
theorem dL_law_863 : decode cL_law 863 = .ok (.ifCond .ne 15, 3) := by decide +kernel
theorem dL_law_866 : decode cL_law 866 = .ok (.aload_n 3, 1) := by decide +kernel
theorem dL_law_867 : decode cL_law 867 = .ok (.iconst 0, 1) := by decide +kernel
theorem dL_law_868 : decode cL_law 868 = .ok (.laload, 1) := by decide +kernel
theorem dL_law_869 : decode cL_law 869 = .ok (.iload 6, 2) := by decide +kernel
theorem dL_law_871 : decode cL_law 871 = .ok (.i2l, 1) := by decide +kernel
theorem dL_law_872 : decode cL_law 872 = .ok (.lcmp, 1) := by decide +kernel
theorem dL_law_873 : decode cL_law 873 = .ok (.ifCond .eq 5, 3) := by decide +kernel
theorem dL_law_876 : decode cL_law 876 = .ok (.iconst 0, 1) := by decide +kernel
theorem dL_law_877 : decode cL_law 877 = .ok (.ireturn, 1) := by decide +kernel
theorem dL_law_878 : decode cL_law 878 = .ok (.goto 251, 3) := by decide +kernel
theorem dL_law_881 : decode cL_law 881 = .ok (.aload_n 1, 1) := by decide +kernel
theorem dL_law_882 : decode cL_law 882 = .ok (.aload_n 0, 1) := by decide +kernel
theorem dL_law_883 : decode cL_law 883 = .ok (.iload 4, 2) := by decide +kernel
theorem dL_law_885 : decode cL_law 885 = .ok (.iconst 1, 1) := by decide +kernel
theorem dL_law_886 : decode cL_law 886 = .ok (.iadd, 1) := by decide +kernel
theorem dL_law_887 : decode cL_law 887 = .ok (.iaload, 1) := by decide +kernel
theorem dL_law_888 : decode cL_law 888 = .ok (.aload_n 3, 1) := by decide +kernel
theorem dL_law_889 : decode cL_law 889 = .ok (.invokestatic 105, 3) := by decide +kernel
theorem dL_law_892 : decode cL_law 892 = .ok (.istore 5, 2) := by decide +kernel
theorem dL_law_894 : decode cL_law 894 = .ok (.aload_n 2, 1) := by decide +kernel
theorem dL_law_895 : decode cL_law 895 = .ok (.aload_n 0, 1) := by decide +kernel
theorem dL_law_896 : decode cL_law 896 = .ok (.iload 4, 2) := by decide +kernel
theorem dL_law_898 : decode cL_law 898 = .ok (.iconst 1, 1) := by decide +kernel
theorem dL_law_899 : decode cL_law 899 = .ok (.iadd, 1) := by decide +kernel
theorem dL_law_900 : decode cL_law 900 = .ok (.iaload, 1) := by decide +kernel
theorem dL_law_901 : decode cL_law 901 = .ok (.invokevirtual 107, 3) := by decide +kernel
theorem dL_law_904 : decode cL_law 904 = .ok (.istore 6, 2) := by decide +kernel
theorem dL_law_906 : decode cL_law 906 = .ok (.aload_n 2, 1) := by decide +kernel
theorem dL_law_907 : decode cL_law 907 = .ok (.invokevirtual 66, 3) := by decide +kernel
theorem dL_law_910 : decode cL_law 910 = .ok (.iload 5, 2) := by decide +kernel
theorem dL_law_912 : decode cL_law 912 = .ok (.if_icmp .eq 5, 3) := by decide +kernel
theorem dL_law_915 : decode cL_law 915 = .ok (.iconst 0, 1) := by decide +kernel
theorem dL_law_916 : decode cL_law 916 = .ok (.ireturn, 1) := by decide +kernel
theorem dL_law_917 : decode cL_law 917 = .ok (.iload 5, 2) := by decide +kernel
theorem dL_law_919 : decode cL_law 919 = .ok (.ifCond .ne 15, 3) := by decide +kernel
theorem dL_law_922 : decode cL_law 922 = .ok (.aload_n 3, 1) := by decide +kernel
theorem dL_law_923 : decode cL_law 923 = .ok (.iconst 0, 1) := by decide +kernel
theorem dL_law_924 : decode cL_law 924 = .ok (.laload, 1) := by decide +kernel
theorem dL_law_925 : decode cL_law 925 = .ok (.iload 6, 2) := by decide +kernel
theorem dL_law_927 : decode cL_law 927 = .ok (.i2l, 1) := by decide +kernel
theorem dL_law_928 : decode cL_law 928 = .ok (.lcmp, 1) := by decide +kernel
theorem dL_law_929 : decode cL_law 929 = .ok (.ifCond .eq 5, 3) := by decide +kernel
theorem dL_law_932 : decode cL_law 932 = .ok (.iconst 0, 1) := by decide +kernel
theorem dL_law_933 : decode cL_law 933 = .ok (.ireturn, 1) := by decide +kernel
theorem dL_law_934 : decode cL_law 934 = .ok (.goto 195, 3) := by decide +kernel
theorem dL_law_937 : decode cL_law 937 = .ok (.aload_n 1, 1) := by decide +kernel
theorem dL_law_938 : decode cL_law 938 = .ok (.aload_n 0, 1) := by decide +kernel
theorem dL_law_939 : decode cL_law 939 = .ok (.iload 4, 2) := by decide +kernel
theorem dL_law_941 : decode cL_law 941 = .ok (.iconst 1, 1) := by decide +kernel
theorem dL_law_942 : decode cL_law 942 = .ok (.iadd, 1) := by decide +kernel
theorem dL_law_943 : decode cL_law 943 = .ok (.iaload, 1) := by decide +kernel
theorem dL_law_944 : decode cL_law 944 = .ok (.aload_n 3, 1) := by decide +kernel
theorem dL_law_945 : decode cL_law 945 = .ok (.invokestatic 108, 3) := by decide +kernel
theorem dL_law_948 : decode cL_law 948 = .ok (.istore 5, 2) := by decide +kernel
theorem dL_law_950 : decode cL_law 950 = .ok (.aload_n 2, 1) := by decide +kernel
theorem dL_law_951 : decode cL_law 951 = .ok (.aload_n 0, 1) := by decide +kernel
theorem dL_law_952 : decode cL_law 952 = .ok (.iload 4, 2) := by decide +kernel
theorem dL_law_954 : decode cL_law 954 = .ok (.iconst 1, 1) := by decide +kernel
theorem dL_law_955 : decode cL_law 955 = .ok (.iadd, 1) := by decide +kernel
theorem dL_law_956 : decode cL_law 956 = .ok (.iaload, 1) := by decide +kernel
theorem dL_law_957 : decode cL_law 957 = .ok (.invokevirtual 110, 3) := by decide +kernel
theorem dL_law_960 : decode cL_law 960 = .ok (.istore 6, 2) := by decide +kernel
theorem dL_law_962 : decode cL_law 962 = .ok (.aload_n 2, 1) := by decide +kernel
theorem dL_law_963 : decode cL_law 963 = .ok (.invokevirtual 66, 3) := by decide +kernel
theorem dL_law_966 : decode cL_law 966 = .ok (.iload 5, 2) := by decide +kernel
theorem dL_law_968 : decode cL_law 968 = .ok (.if_icmp .eq 5, 3) := by decide +kernel
theorem dL_law_971 : decode cL_law 971 = .ok (.iconst 0, 1) := by decide +kernel
theorem dL_law_972 : decode cL_law 972 = .ok (.ireturn, 1) := by decide +kernel
theorem dL_law_973 : decode cL_law 973 = .ok (.iload 5, 2) := by decide +kernel
theorem dL_law_975 : decode cL_law 975 = .ok (.ifCond .ne 15, 3) := by decide +kernel
theorem dL_law_978 : decode cL_law 978 = .ok (.aload_n 3, 1) := by decide +kernel
theorem dL_law_979 : decode cL_law 979 = .ok (.iconst 0, 1) := by decide +kernel
theorem dL_law_980 : decode cL_law 980 = .ok (.laload, 1) := by decide +kernel
theorem dL_law_981 : decode cL_law 981 = .ok (.iload 6, 2) := by decide +kernel
theorem dL_law_983 : decode cL_law 983 = .ok (.i2l, 1) := by decide +kernel
theorem dL_law_984 : decode cL_law 984 = .ok (.lcmp, 1) := by decide +kernel
theorem dL_law_985 : decode cL_law 985 = .ok (.ifCond .eq 5, 3) := by decide +kernel
theorem dL_law_988 : decode cL_law 988 = .ok (.iconst 0, 1) := by decide +kernel
theorem dL_law_989 : decode cL_law 989 = .ok (.ireturn, 1) := by decide +kernel
theorem dL_law_990 : decode cL_law 990 = .ok (.goto 139, 3) := by decide +kernel
theorem dL_law_993 : decode cL_law 993 = .ok (.aload_n 1, 1) := by decide +kernel
theorem dL_law_994 : decode cL_law 994 = .ok (.aload_n 0, 1) := by decide +kernel
theorem dL_law_995 : decode cL_law 995 = .ok (.iload 4, 2) := by decide +kernel
theorem dL_law_997 : decode cL_law 997 = .ok (.iconst 1, 1) := by decide +kernel
theorem dL_law_998 : decode cL_law 998 = .ok (.iadd, 1) := by decide +kernel
theorem dL_law_999 : decode cL_law 999 = .ok (.iaload, 1) := by decide +kernel
theorem dL_law_1000 : decode cL_law 1000 = .ok (.aload_n 0, 1) := by decide +kernel
theorem dL_law_1001 : decode cL_law 1001 = .ok (.iload 4, 2) := by decide +kernel
theorem dL_law_1003 : decode cL_law 1003 = .ok (.iconst 2, 1) := by decide +kernel
theorem dL_law_1004 : decode cL_law 1004 = .ok (.iadd, 1) := by decide +kernel
theorem dL_law_1005 : decode cL_law 1005 = .ok (.iaload, 1) := by decide +kernel
theorem dL_law_1006 : decode cL_law 1006 = .ok (.aload_n 3, 1) := by decide +kernel
theorem dL_law_1007 : decode cL_law 1007 = .ok (.invokestatic 111, 3) := by decide +kernel
theorem dL_law_1010 : decode cL_law 1010 = .ok (.istore 5, 2) := by decide +kernel
theorem dL_law_1012 : decode cL_law 1012 = .ok (.aload_n 2, 1) := by decide +kernel
theorem dL_law_1013 : decode cL_law 1013 = .ok (.aload_n 0, 1) := by decide +kernel
theorem dL_law_1014 : decode cL_law 1014 = .ok (.iload 4, 2) := by decide +kernel
theorem dL_law_1016 : decode cL_law 1016 = .ok (.iconst 1, 1) := by decide +kernel
theorem dL_law_1017 : decode cL_law 1017 = .ok (.iadd, 1) := by decide +kernel
theorem dL_law_1018 : decode cL_law 1018 = .ok (.iaload, 1) := by decide +kernel
theorem dL_law_1019 : decode cL_law 1019 = .ok (.aload_n 0, 1) := by decide +kernel
theorem dL_law_1020 : decode cL_law 1020 = .ok (.iload 4, 2) := by decide +kernel
theorem dL_law_1022 : decode cL_law 1022 = .ok (.iconst 2, 1) := by decide +kernel
theorem dL_law_1023 : decode cL_law 1023 = .ok (.iadd, 1) := by decide +kernel
theorem dL_law_1024 : decode cL_law 1024 = .ok (.iaload, 1) := by decide +kernel
theorem dL_law_1025 : decode cL_law 1025 = .ok (.invokevirtual 113, 3) := by decide +kernel
theorem dL_law_1028 : decode cL_law 1028 = .ok (.istore 6, 2) := by decide +kernel
theorem dL_law_1030 : decode cL_law 1030 = .ok (.aload_n 2, 1) := by decide +kernel
theorem dL_law_1031 : decode cL_law 1031 = .ok (.invokevirtual 66, 3) := by decide +kernel
theorem dL_law_1034 : decode cL_law 1034 = .ok (.iload 5, 2) := by decide +kernel
theorem dL_law_1036 : decode cL_law 1036 = .ok (.if_icmp .eq 5, 3) := by decide +kernel
theorem dL_law_1039 : decode cL_law 1039 = .ok (.iconst 0, 1) := by decide +kernel
theorem dL_law_1040 : decode cL_law 1040 = .ok (.ireturn, 1) := by decide +kernel
theorem dL_law_1041 : decode cL_law 1041 = .ok (.iload 5, 2) := by decide +kernel
theorem dL_law_1043 : decode cL_law 1043 = .ok (.ifCond .ne 15, 3) := by decide +kernel
theorem dL_law_1046 : decode cL_law 1046 = .ok (.aload_n 3, 1) := by decide +kernel
theorem dL_law_1047 : decode cL_law 1047 = .ok (.iconst 0, 1) := by decide +kernel
theorem dL_law_1048 : decode cL_law 1048 = .ok (.laload, 1) := by decide +kernel
theorem dL_law_1049 : decode cL_law 1049 = .ok (.iload 6, 2) := by decide +kernel
theorem dL_law_1051 : decode cL_law 1051 = .ok (.i2l, 1) := by decide +kernel
theorem dL_law_1052 : decode cL_law 1052 = .ok (.lcmp, 1) := by decide +kernel
theorem dL_law_1053 : decode cL_law 1053 = .ok (.ifCond .eq 5, 3) := by decide +kernel
theorem dL_law_1056 : decode cL_law 1056 = .ok (.iconst 0, 1) := by decide +kernel
theorem dL_law_1057 : decode cL_law 1057 = .ok (.ireturn, 1) := by decide +kernel
theorem dL_law_1058 : decode cL_law 1058 = .ok (.goto 71, 3) := by decide +kernel
theorem dL_law_1061 : decode cL_law 1061 = .ok (.aload_n 1, 1) := by decide +kernel
theorem dL_law_1062 : decode cL_law 1062 = .ok (.invokevirtual 114, 3) := by decide +kernel
theorem dL_law_1065 : decode cL_law 1065 = .ok (.aload_n 2, 1) := by decide +kernel
theorem dL_law_1066 : decode cL_law 1066 = .ok (.invokevirtual 117, 3) := by decide +kernel
theorem dL_law_1069 : decode cL_law 1069 = .ok (.if_icmp .eq 60, 3) := by decide +kernel
theorem dL_law_1072 : decode cL_law 1072 = .ok (.iconst 0, 1) := by decide +kernel
theorem dL_law_1073 : decode cL_law 1073 = .ok (.ireturn, 1) := by decide +kernel
theorem dL_law_1074 : decode cL_law 1074 = .ok (.aload_n 1, 1) := by decide +kernel
theorem dL_law_1075 : decode cL_law 1075 = .ok (.invokevirtual 118, 3) := by decide +kernel
theorem dL_law_1078 : decode cL_law 1078 = .ok (.dstore 5, 2) := by decide +kernel
theorem dL_law_1080 : decode cL_law 1080 = .ok (.aload_n 2, 1) := by decide +kernel
theorem dL_law_1081 : decode cL_law 1081 = .ok (.invokevirtual 122, 3) := by decide +kernel
theorem dL_law_1084 : decode cL_law 1084 = .ok (.dstore 7, 2) := by decide +kernel
theorem dL_law_1086 : decode cL_law 1086 = .ok (.dload 5, 2) := by decide +kernel
theorem dL_law_1088 : decode cL_law 1088 = .ok (.dload 7, 2) := by decide +kernel
theorem dL_law_1090 : decode cL_law 1090 = .ok (.dcmp .l, 1) := by decide +kernel
theorem dL_law_1091 : decode cL_law 1091 = .ok (.ifCond .eq 21, 3) := by decide +kernel
theorem dL_law_1094 : decode cL_law 1094 = .ok (.dload 5, 2) := by decide +kernel
theorem dL_law_1096 : decode cL_law 1096 = .ok (.dload 5, 2) := by decide +kernel
theorem dL_law_1098 : decode cL_law 1098 = .ok (.dcmp .l, 1) := by decide +kernel
theorem dL_law_1099 : decode cL_law 1099 = .ok (.ifCond .eq 11, 3) := by decide +kernel
theorem dL_law_1102 : decode cL_law 1102 = .ok (.dload 7, 2) := by decide +kernel
theorem dL_law_1104 : decode cL_law 1104 = .ok (.dload 7, 2) := by decide +kernel
theorem dL_law_1106 : decode cL_law 1106 = .ok (.dcmp .l, 1) := by decide +kernel
theorem dL_law_1107 : decode cL_law 1107 = .ok (.ifCond .ne 5, 3) := by decide +kernel
theorem dL_law_1110 : decode cL_law 1110 = .ok (.iconst 0, 1) := by decide +kernel
theorem dL_law_1111 : decode cL_law 1111 = .ok (.ireturn, 1) := by decide +kernel
theorem dL_law_1112 : decode cL_law 1112 = .ok (.goto 17, 3) := by decide +kernel
theorem dL_law_1115 : decode cL_law 1115 = .ok (.aload_n 1, 1) := by decide +kernel
theorem dL_law_1116 : decode cL_law 1116 = .ok (.invokevirtual 123, 3) := by decide +kernel
theorem dL_law_1119 : decode cL_law 1119 = .ok (.aload_n 2, 1) := by decide +kernel
theorem dL_law_1120 : decode cL_law 1120 = .ok (.invokevirtual 127, 3) := by decide +kernel
theorem dL_law_1123 : decode cL_law 1123 = .ok (.lcmp, 1) := by decide +kernel
theorem dL_law_1124 : decode cL_law 1124 = .ok (.ifCond .eq 5, 3) := by decide +kernel
theorem dL_law_1127 : decode cL_law 1127 = .ok (.iconst 0, 1) := by decide +kernel
theorem dL_law_1128 : decode cL_law 1128 = .ok (.ireturn, 1) := by decide +kernel
theorem dL_law_1129 : decode cL_law 1129 = .ok (.iinc 4 4, 3) := by decide +kernel
theorem dL_law_1132 : decode cL_law 1132 = .ok (.goto (-1109), 3) := by decide +kernel
theorem dL_law_1135 : decode cL_law 1135 = .ok (.iconst 1, 1) := by decide +kernel
theorem dL_law_1136 : decode cL_law 1136 = .ok (.ireturn, 1) := by decide +kernel
