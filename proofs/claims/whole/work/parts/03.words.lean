set_option maxRecDepth 20000 in
theorem mp0 : Cond.selects RX3 yX3_forgetAll yX3_forgetAll ∈ WALL := ez_mem (List.mem_append_left _ (List.mem_of_getElem? (i := 0) rfl)) rfl
set_option maxRecDepth 20000 in
theorem mp1 : Cond.selects RX3 yX3_forgetResult yX3_forgetResult ∈ WALL := ez_mem (List.mem_append_left _ (List.mem_of_getElem? (i := 1) rfl)) rfl
set_option maxRecDepth 20000 in
theorem mp2 : Cond.selects RX1 yX1_readTerm yX1_readTerm ∈ WALL := ez_mem (List.mem_append_left _ (List.mem_of_getElem? (i := 2) rfl)) rfl
set_option maxRecDepth 20000 in
theorem mp3 : Cond.selects RX1 yX1_readFactor yX1_readFactor ∈ WALL := ez_mem (List.mem_append_left _ (List.mem_of_getElem? (i := 3) rfl)) rfl
set_option maxRecDepth 20000 in
theorem mp4 : Cond.selects RX1 yX1_current yX1_current ∈ WALL := ez_mem (List.mem_append_left _ (List.mem_of_getElem? (i := 4) rfl)) rfl
set_option maxRecDepth 20000 in
theorem mp5 : Cond.selects RX1 yX1_readAtom yX1_readAtom ∈ WALL := ez_mem (List.mem_append_left _ (List.mem_of_getElem? (i := 5) rfl)) rfl
set_option maxRecDepth 20000 in
theorem mp6 : Cond.selects RX1 yX1_readNumber yX1_readNumber ∈ WALL := ez_mem (List.mem_append_left _ (List.mem_of_getElem? (i := 6) rfl)) rfl
set_option maxRecDepth 20000 in
theorem mp7 : Cond.selects RX0 yX0_make yX0_make ∈ WALL := ez_mem (List.mem_append_left _ (List.mem_of_getElem? (i := 7) rfl)) rfl
set_option maxRecDepth 20000 in
theorem mp8 : Cond.selects RX1 yX1_readLetter yX1_readLetter ∈ WALL := ez_mem (List.mem_append_left _ (List.mem_of_getElem? (i := 8) rfl)) rfl
set_option maxRecDepth 20000 in
theorem mp9 : Cond.selects RX1 yX1_readBracket yX1_readBracket ∈ WALL := ez_mem (List.mem_append_left _ (List.mem_of_getElem? (i := 9) rfl)) rfl
set_option maxRecDepth 20000 in
theorem mp10 : Cond.selects RX1 yX1_readPower yX1_readPower ∈ WALL := ez_mem (List.mem_append_left _ (List.mem_of_getElem? (i := 10) rfl)) rfl
set_option maxRecDepth 20000 in
theorem mp11 : Cond.selects RX1 yX1_join yX1_join ∈ WALL := ez_mem (List.mem_append_left _ (List.mem_of_getElem? (i := 11) rfl)) rfl
set_option maxRecDepth 20000 in
theorem mp13 : Cond.selects RX3 yX3_isGiven yX3_isGiven ∈ WALL := ez_mem (List.mem_append_left _ (List.mem_of_getElem? (i := 13) rfl)) rfl
set_option maxRecDepth 20000 in
theorem mp14 : Cond.selects RX2 yX2_chooseOperand yX2_chooseOperand ∈ WALL := ez_mem (List.mem_append_left _ (List.mem_of_getElem? (i := 14) rfl)) rfl
set_option maxRecDepth 20000 in
theorem mp15 : Cond.selects RX3 yX3_trySteps yX3_trySteps ∈ WALL := ez_mem (List.mem_append_left _ (List.mem_of_getElem? (i := 15) rfl)) rfl
set_option maxRecDepth 20000 in
theorem mp16 : Cond.selects RX2 yX2_workOutPart yX2_workOutPart ∈ WALL := ez_mem (List.mem_append_left _ (List.mem_of_getElem? (i := 16) rfl)) rfl
set_option maxRecDepth 20000 in
theorem mp17 : Cond.selects RX2 yX2_setState yX2_setState ∈ WALL := ez_mem (List.mem_append_left _ (List.mem_of_getElem? (i := 17) rfl)) rfl
set_option maxRecDepth 20000 in
theorem mp18 : Cond.selects RX2 yX2_isOpen yX2_isOpen ∈ WALL := ez_mem (List.mem_append_left _ (List.mem_of_getElem? (i := 18) rfl)) rfl
set_option maxRecDepth 20000 in
theorem mp19 : Cond.selects RX2 yX2_setWhole yX2_setWhole ∈ WALL := ez_mem (List.mem_append_left _ (List.mem_of_getElem? (i := 19) rfl)) rfl
set_option maxRecDepth 20000 in
theorem mp20 : Cond.selects RX2 yX2_setSpan yX2_setSpan ∈ WALL := ez_mem (List.mem_append_left _ (List.mem_of_getElem? (i := 20) rfl)) rfl
set_option maxRecDepth 20000 in
theorem mp21 : Cond.selects RX2 yX2_multiply yX2_multiply ∈ WALL := ez_mem (List.mem_append_left _ (List.mem_of_getElem? (i := 21) rfl)) rfl
set_option maxRecDepth 20000 in
theorem mp22 : Cond.selects RX2 yX2_setSpanOfSquaredUnits yX2_setSpanOfSquaredUnits ∈ WALL := ez_mem (List.mem_append_left _ (List.mem_of_getElem? (i := 22) rfl)) rfl
set_option maxRecDepth 20000 in
theorem mp23 : Cond.selects RX2 yX2_divide yX2_divide ∈ WALL := ez_mem (List.mem_append_left _ (List.mem_of_getElem? (i := 23) rfl)) rfl
set_option maxRecDepth 20000 in
theorem mp24 : Cond.selects RX2 yX2_leastRatio yX2_leastRatio ∈ WALL := ez_mem (List.mem_append_left _ (List.mem_of_getElem? (i := 24) rfl)) rfl
set_option maxRecDepth 20000 in
theorem mp25 : Cond.selects RX2 yX2_floorRatio yX2_floorRatio ∈ WALL := ez_mem (List.mem_append_left _ (List.mem_of_getElem? (i := 25) rfl)) rfl
set_option maxRecDepth 20000 in
theorem mp26 : Cond.selects RX2 yX2_greatestRatio yX2_greatestRatio ∈ WALL := ez_mem (List.mem_append_left _ (List.mem_of_getElem? (i := 26) rfl)) rfl
set_option maxRecDepth 20000 in
theorem mp27 : Cond.selects RX2 yX2_square yX2_square ∈ WALL := ez_mem (List.mem_append_left _ (List.mem_of_getElem? (i := 27) rfl)) rfl
set_option maxRecDepth 20000 in
theorem mp28 : Cond.selects RX2 yX2_takeRoot yX2_takeRoot ∈ WALL := ez_mem (List.mem_append_left _ (List.mem_of_getElem? (i := 28) rfl)) rfl
set_option maxRecDepth 20000 in
theorem mp29 : Cond.selects RX3 yX3_judgeTwo yX3_judgeTwo ∈ WALL := ez_mem (List.mem_append_left _ (List.mem_of_getElem? (i := 29) rfl)) rfl
set_option maxRecDepth 20000 in
theorem mp30 : Cond.selects RX3 yX3_judgeOne yX3_judgeOne ∈ WALL := ez_mem (List.mem_append_left _ (List.mem_of_getElem? (i := 30) rfl)) rfl
set_option maxRecDepth 20000 in
theorem mp31 : Cond.selects RX3 yX3_keepResult yX3_keepResult ∈ WALL := ez_mem (List.mem_append_left _ (List.mem_of_getElem? (i := 31) rfl)) rfl
set_option maxRecDepth 20000 in
theorem mp32 : Cond.selects RX4 yX4_inGrammar yX4_inGrammar ∈ WALL := ez_mem (List.mem_append_left _ (List.mem_of_getElem? (i := 32) rfl)) rfl
set_option maxRecDepth 20000 in
theorem mp33 : Cond.selects RX4 yX4_allKnown yX4_allKnown ∈ WALL := ez_mem (List.mem_append_left _ (List.mem_of_getElem? (i := 33) rfl)) rfl
set_option maxRecDepth 20000 in
theorem mp34 : Cond.selects RX4 yX4_build yX4_build ∈ WALL := ez_mem (List.mem_append_left _ (List.mem_of_getElem? (i := 34) rfl)) rfl
set_option maxRecDepth 20000 in
theorem mp35 : Cond.selects RX4 yX4_number yX4_number ∈ WALL := ez_mem (List.mem_append_left _ (List.mem_of_getElem? (i := 35) rfl)) rfl
set_option maxRecDepth 20000 in
theorem mp36 : Cond.selects RX4 yX4_make yX4_make ∈ WALL := ez_mem (List.mem_append_left _ (List.mem_of_getElem? (i := 36) rfl)) rfl
set_option maxRecDepth 20000 in
theorem mp37 : Cond.selects RX4 yX4_finish yX4_finish ∈ WALL := ez_mem (List.mem_append_left _ (List.mem_of_getElem? (i := 37) rfl)) rfl
set_option maxRecDepth 20000 in
theorem mp38 : Cond.selects RX4 yX4_power yX4_power ∈ WALL := ez_mem (List.mem_append_left _ (List.mem_of_getElem? (i := 38) rfl)) rfl
set_option maxRecDepth 20000 in
theorem mp39 : Cond.selects RX4 yX4_take yX4_take ∈ WALL := ez_mem (List.mem_append_left _ (List.mem_of_getElem? (i := 39) rfl)) rfl
set_option maxRecDepth 20000 in
theorem mp40 : Cond.selects RX4 yX4_settle yX4_settle ∈ WALL := ez_mem (List.mem_append_left _ (List.mem_of_getElem? (i := 40) rfl)) rfl
set_option maxRecDepth 20000 in
theorem mp41 : Cond.selects RX4 yX4_hang yX4_hang ∈ WALL := ez_mem (List.mem_append_left _ (List.mem_of_getElem? (i := 41) rfl)) rfl
set_option maxRecDepth 20000 in
theorem mp42 : Cond.selects RX4 yX4_isGiven yX4_isGiven ∈ WALL := ez_mem (List.mem_append_left _ (List.mem_of_getElem? (i := 42) rfl)) rfl
set_option maxRecDepth 20000 in
theorem mp43 : Cond.selects RX4 yX4_spread yX4_spread ∈ WALL := ez_mem (List.mem_append_left _ (List.mem_of_getElem? (i := 43) rfl)) rfl
set_option maxRecDepth 20000 in
theorem mp44 : Cond.selects RX4 yX4_allAt yX4_allAt ∈ WALL := ez_mem (List.mem_append_left _ (List.mem_of_getElem? (i := 44) rfl)) rfl
set_option maxRecDepth 20000 in
theorem mp45 : Cond.selects RX4 yX4_workOut yX4_workOut ∈ WALL := ez_mem (List.mem_append_left _ (List.mem_of_getElem? (i := 45) rfl)) rfl
set_option maxRecDepth 20000 in
theorem mp46 : Cond.selects RX4 yX4_ends yX4_ends ∈ WALL := ez_mem (List.mem_append_left _ (List.mem_of_getElem? (i := 46) rfl)) rfl
set_option maxRecDepth 20000 in
theorem mp47 : Cond.selects RX4 yX4_include yX4_include ∈ WALL := ez_mem (List.mem_append_left _ (List.mem_of_getElem? (i := 47) rfl)) rfl
set_option maxRecDepth 20000 in
theorem mp48 : Cond.selects RX4 yX4_relation yX4_relation ∈ WALL := ez_mem (List.mem_append_left _ (List.mem_of_getElem? (i := 48) rfl)) rfl
set_option maxRecDepth 20000 in
theorem mw1 : Cond.initialized RX3 ∈ WALL := ez_mem (List.mem_append_right _ (List.mem_append_left _ (List.mem_of_getElem? (i := 1) rfl))) rfl
set_option maxRecDepth 20000 in
theorem mw2 : Cond.initialized RX0 ∈ WALL := ez_mem (List.mem_append_right _ (List.mem_append_left _ (List.mem_of_getElem? (i := 2) rfl))) rfl
set_option maxRecDepth 20000 in
theorem mw3 : Cond.initialized RX2 ∈ WALL := ez_mem (List.mem_append_right _ (List.mem_append_left _ (List.mem_of_getElem? (i := 3) rfl))) rfl
set_option maxRecDepth 20000 in
theorem mw4 : Cond.initialized RX4 ∈ WALL := ez_mem (List.mem_append_right _ (List.mem_append_left _ (List.mem_of_getElem? (i := 4) rfl))) rfl
set_option maxRecDepth 20000 in
theorem mw5 : Cond.initialized RX1 ∈ WALL := ez_mem (List.mem_append_right _ (List.mem_append_left _ (List.mem_of_getElem? (i := 5) rfl))) rfl
set_option maxRecDepth 20000 in
theorem mw6 : Cond.initialized RJ9 ∈ WALL := ez_mem (List.mem_append_right _ (List.mem_append_left _ (List.mem_of_getElem? (i := 6) rfl))) rfl
set_option maxRecDepth 20000 in
theorem mw21 : Cond.fieldLink RX0 11 RX0 "sorts" "[I" ∈ WALL := ez_mem (List.mem_append_right _ (List.mem_append_left _ (List.mem_of_getElem? (i := 21) rfl))) rfl
set_option maxRecDepth 20000 in
theorem mw22 : Cond.fieldLink RX0 15 RX0 "values" "[I" ∈ WALL := ez_mem (List.mem_append_right _ (List.mem_append_left _ (List.mem_of_getElem? (i := 22) rfl))) rfl
set_option maxRecDepth 20000 in
theorem mw23 : Cond.fieldLink RX0 18 RX0 "firsts" "[I" ∈ WALL := ez_mem (List.mem_append_right _ (List.mem_append_left _ (List.mem_of_getElem? (i := 23) rfl))) rfl
set_option maxRecDepth 20000 in
theorem mw24 : Cond.fieldLink RX0 21 RX0 "seconds" "[I" ∈ WALL := ez_mem (List.mem_append_right _ (List.mem_append_left _ (List.mem_of_getElem? (i := 24) rfl))) rfl
set_option maxRecDepth 20000 in
theorem mw25 : Cond.fieldLink RX0 24 RX0 "made" "I" ∈ WALL := ez_mem (List.mem_append_right _ (List.mem_append_left _ (List.mem_of_getElem? (i := 25) rfl))) rfl
set_option maxRecDepth 20000 in
theorem mw26 : Cond.laysFinal RX0 RX0 "sorts" "[I" ∈ WALL := ez_mem (List.mem_append_right _ (List.mem_append_left _ (List.mem_of_getElem? (i := 26) rfl))) rfl
set_option maxRecDepth 20000 in
theorem mw28 : Cond.laysFinal RX0 RX0 "values" "[I" ∈ WALL := ez_mem (List.mem_append_right _ (List.mem_append_left _ (List.mem_of_getElem? (i := 28) rfl))) rfl
set_option maxRecDepth 20000 in
theorem mw30 : Cond.laysFinal RX0 RX0 "firsts" "[I" ∈ WALL := ez_mem (List.mem_append_right _ (List.mem_append_left _ (List.mem_of_getElem? (i := 30) rfl))) rfl
set_option maxRecDepth 20000 in
theorem mw32 : Cond.laysFinal RX0 RX0 "seconds" "[I" ∈ WALL := ez_mem (List.mem_append_right _ (List.mem_append_left _ (List.mem_of_getElem? (i := 32) rfl))) rfl
set_option maxRecDepth 20000 in
theorem mw34 : Cond.lays RX0 RX0 "made" "I" ∈ WALL := ez_mem (List.mem_append_right _ (List.mem_append_left _ (List.mem_of_getElem? (i := 34) rfl))) rfl
set_option maxRecDepth 20000 in
theorem mw45 : Cond.fieldLink RX2 9 RX2 "chosen" "[Z" ∈ WALL := ez_mem (List.mem_append_right _ (List.mem_append_left _ (List.mem_of_getElem? (i := 45) rfl))) rfl
set_option maxRecDepth 20000 in
theorem mw46 : Cond.fieldLink RX2 15 RX2 "states" "[I" ∈ WALL := ez_mem (List.mem_append_right _ (List.mem_append_left _ (List.mem_of_getElem? (i := 46) rfl))) rfl
set_option maxRecDepth 20000 in
theorem mw47 : Cond.fieldLink RX2 19 RX2 "lows" "[J" ∈ WALL := ez_mem (List.mem_append_right _ (List.mem_append_left _ (List.mem_of_getElem? (i := 47) rfl))) rfl
set_option maxRecDepth 20000 in
theorem mw48 : Cond.fieldLink RX2 23 RX2 "highs" "[J" ∈ WALL := ez_mem (List.mem_append_right _ (List.mem_append_left _ (List.mem_of_getElem? (i := 48) rfl))) rfl
set_option maxRecDepth 20000 in
theorem mw49 : Cond.fieldLink RX2 41 RX2 "step" "I" ∈ WALL := ez_mem (List.mem_append_right _ (List.mem_append_left _ (List.mem_of_getElem? (i := 49) rfl))) rfl
set_option maxRecDepth 20000 in
theorem mw50 : Cond.laysFinal RX2 RX2 "chosen" "[Z" ∈ WALL := ez_mem (List.mem_append_right _ (List.mem_append_left _ (List.mem_of_getElem? (i := 50) rfl))) rfl
set_option maxRecDepth 20000 in
theorem mw52 : Cond.laysFinal RX2 RX2 "states" "[I" ∈ WALL := ez_mem (List.mem_append_right _ (List.mem_append_left _ (List.mem_of_getElem? (i := 52) rfl))) rfl
set_option maxRecDepth 20000 in
theorem mw54 : Cond.laysFinal RX2 RX2 "lows" "[J" ∈ WALL := ez_mem (List.mem_append_right _ (List.mem_append_left _ (List.mem_of_getElem? (i := 54) rfl))) rfl
set_option maxRecDepth 20000 in
theorem mw56 : Cond.laysFinal RX2 RX2 "highs" "[J" ∈ WALL := ez_mem (List.mem_append_right _ (List.mem_append_left _ (List.mem_of_getElem? (i := 56) rfl))) rfl
set_option maxRecDepth 20000 in
theorem mw58 : Cond.lays RX2 RX2 "step" "I" ∈ WALL := ez_mem (List.mem_append_right _ (List.mem_append_left _ (List.mem_of_getElem? (i := 58) rfl))) rfl
set_option maxRecDepth 20000 in
theorem mw63 : Cond.methodLink RX3 31 yX3_forgetAll ∈ WALL := ez_mem (List.mem_append_right _ (List.mem_append_left _ (List.mem_of_getElem? (i := 63) rfl))) rfl
set_option maxRecDepth 20000 in
theorem mw65 : Cond.instanceMethod yX3_forgetAll ∈ WALL := ez_mem (List.mem_append_right _ (List.mem_append_left _ (List.mem_of_getElem? (i := 65) rfl))) rfl
set_option maxRecDepth 20000 in
theorem mw66 : Cond.code yX3_forgetAll prog_1_method_21_code 2 none ∈ WALL := ez_mem (List.mem_append_right _ (List.mem_append_left _ (List.mem_of_getElem? (i := 66) rfl))) rfl
set_option maxRecDepth 20000 in
theorem mw67 : Cond.methodLink RX3 62 yX0_shrinkTo ∈ WALL := ez_mem (List.mem_append_right _ (List.mem_append_left _ (List.mem_of_getElem? (i := 67) rfl))) rfl
set_option maxRecDepth 20000 in
theorem mw68 : Cond.instanceMethod yX0_shrinkTo ∈ WALL := ez_mem (List.mem_append_right _ (List.mem_append_left _ (List.mem_of_getElem? (i := 68) rfl))) rfl
set_option maxRecDepth 20000 in
theorem mw69 : Cond.selects RX0 yX0_shrinkTo yX0_shrinkTo ∈ WALL := ez_mem (List.mem_append_right _ (List.mem_append_left _ (List.mem_of_getElem? (i := 69) rfl))) rfl
set_option maxRecDepth 20000 in
theorem mw70 : Cond.code yX0_shrinkTo prog_2_method_4_code 2 none ∈ WALL := ez_mem (List.mem_append_right _ (List.mem_append_left _ (List.mem_of_getElem? (i := 70) rfl))) rfl
set_option maxRecDepth 20000 in
theorem mw71 : Cond.methodLink RX3 77 yX3_forgetResult ∈ WALL := ez_mem (List.mem_append_right _ (List.mem_append_left _ (List.mem_of_getElem? (i := 71) rfl))) rfl
set_option maxRecDepth 20000 in
theorem mw73 : Cond.instanceMethod yX3_forgetResult ∈ WALL := ez_mem (List.mem_append_right _ (List.mem_append_left _ (List.mem_of_getElem? (i := 73) rfl))) rfl
set_option maxRecDepth 20000 in
theorem mw74 : Cond.code yX3_forgetResult prog_1_method_22_code 1 none ∈ WALL := ez_mem (List.mem_append_right _ (List.mem_append_left _ (List.mem_of_getElem? (i := 74) rfl))) rfl
set_option maxRecDepth 20000 in
theorem mw75 : Cond.fieldLink RX3 9 RX3 "text" "[C" ∈ WALL := ez_mem (List.mem_append_right _ (List.mem_append_left _ (List.mem_of_getElem? (i := 75) rfl))) rfl
set_option maxRecDepth 20000 in
theorem mw76 : Cond.fieldLink RX3 34 RX3 "textSize" "I" ∈ WALL := ez_mem (List.mem_append_right _ (List.mem_append_left _ (List.mem_of_getElem? (i := 76) rfl))) rfl
set_option maxRecDepth 20000 in
theorem mw77 : Cond.fieldLink RX3 16 RX3 "store" "LEnclosureCalculator$Parts;" ∈ WALL := ez_mem (List.mem_append_right _ (List.mem_append_left _ (List.mem_of_getElem? (i := 77) rfl))) rfl
set_option maxRecDepth 20000 in
theorem mw78 : Cond.fieldLink RX3 20 RX3 "named" "[I" ∈ WALL := ez_mem (List.mem_append_right _ (List.mem_append_left _ (List.mem_of_getElem? (i := 78) rfl))) rfl
set_option maxRecDepth 20000 in
theorem mw79 : Cond.fieldLink RX3 27 RX3 "spans" "LEnclosureCalculator$Spans;" ∈ WALL := ez_mem (List.mem_append_right _ (List.mem_append_left _ (List.mem_of_getElem? (i := 79) rfl))) rfl
set_option maxRecDepth 20000 in
theorem mw80 : Cond.fieldLink RX3 87 RX3 "latestWork" "I" ∈ WALL := ez_mem (List.mem_append_right _ (List.mem_append_left _ (List.mem_of_getElem? (i := 80) rfl))) rfl
set_option maxRecDepth 20000 in
theorem mw81 : Cond.fieldLink RX3 90 RX3 "resultStep" "I" ∈ WALL := ez_mem (List.mem_append_right _ (List.mem_append_left _ (List.mem_of_getElem? (i := 81) rfl))) rfl
set_option maxRecDepth 20000 in
theorem mw82 : Cond.fieldLink RX3 93 RX3 "resultLow" "J" ∈ WALL := ez_mem (List.mem_append_right _ (List.mem_append_left _ (List.mem_of_getElem? (i := 82) rfl))) rfl
set_option maxRecDepth 20000 in
theorem mw83 : Cond.fieldLink RX3 97 RX3 "resultHigh" "J" ∈ WALL := ez_mem (List.mem_append_right _ (List.mem_append_left _ (List.mem_of_getElem? (i := 83) rfl))) rfl
set_option maxRecDepth 20000 in
theorem mw84 : Cond.laysFinal RX3 RX3 "text" "[C" ∈ WALL := ez_mem (List.mem_append_right _ (List.mem_append_left _ (List.mem_of_getElem? (i := 84) rfl))) rfl
set_option maxRecDepth 20000 in
theorem mw86 : Cond.lays RX3 RX3 "textSize" "I" ∈ WALL := ez_mem (List.mem_append_right _ (List.mem_append_left _ (List.mem_of_getElem? (i := 86) rfl))) rfl
set_option maxRecDepth 20000 in
theorem mw88 : Cond.laysFinal RX3 RX3 "store" "LEnclosureCalculator$Parts;" ∈ WALL := ez_mem (List.mem_append_right _ (List.mem_append_left _ (List.mem_of_getElem? (i := 88) rfl))) rfl
set_option maxRecDepth 20000 in
theorem mw90 : Cond.laysFinal RX3 RX3 "named" "[I" ∈ WALL := ez_mem (List.mem_append_right _ (List.mem_append_left _ (List.mem_of_getElem? (i := 90) rfl))) rfl
set_option maxRecDepth 20000 in
theorem mw92 : Cond.laysFinal RX3 RX3 "spans" "LEnclosureCalculator$Spans;" ∈ WALL := ez_mem (List.mem_append_right _ (List.mem_append_left _ (List.mem_of_getElem? (i := 92) rfl))) rfl
set_option maxRecDepth 20000 in
theorem mw94 : Cond.lays RX3 RX3 "latestWork" "I" ∈ WALL := ez_mem (List.mem_append_right _ (List.mem_append_left _ (List.mem_of_getElem? (i := 94) rfl))) rfl
set_option maxRecDepth 20000 in
theorem mw96 : Cond.lays RX3 RX3 "resultStep" "I" ∈ WALL := ez_mem (List.mem_append_right _ (List.mem_append_left _ (List.mem_of_getElem? (i := 96) rfl))) rfl
set_option maxRecDepth 20000 in
theorem mw98 : Cond.lays RX3 RX3 "resultLow" "J" ∈ WALL := ez_mem (List.mem_append_right _ (List.mem_append_left _ (List.mem_of_getElem? (i := 98) rfl))) rfl
set_option maxRecDepth 20000 in
theorem mw100 : Cond.lays RX3 RX3 "resultHigh" "J" ∈ WALL := ez_mem (List.mem_append_right _ (List.mem_append_left _ (List.mem_of_getElem? (i := 100) rfl))) rfl
set_option maxRecDepth 20000 in
theorem mw107 : Cond.methodLink RX3 38 yX3_isTypable ∈ WALL := ez_mem (List.mem_append_right _ (List.mem_append_left _ (List.mem_of_getElem? (i := 107) rfl))) rfl
set_option maxRecDepth 20000 in
theorem mw108 : Cond.static yX3_isTypable ∈ WALL := ez_mem (List.mem_append_right _ (List.mem_append_left _ (List.mem_of_getElem? (i := 108) rfl))) rfl
set_option maxRecDepth 20000 in
theorem mw109 : Cond.code yX3_isTypable prog_1_method_15_code 1 (some .boolean) ∈ WALL := ez_mem (List.mem_append_right _ (List.mem_append_left _ (List.mem_of_getElem? (i := 109) rfl))) rfl
set_option maxRecDepth 20000 in
theorem mw110 : Cond.methodLink RX3 104 yX3_isDigit ∈ WALL := ez_mem (List.mem_append_right _ (List.mem_append_left _ (List.mem_of_getElem? (i := 110) rfl))) rfl
set_option maxRecDepth 20000 in
theorem mw111 : Cond.static yX3_isDigit ∈ WALL := ez_mem (List.mem_append_right _ (List.mem_append_left _ (List.mem_of_getElem? (i := 111) rfl))) rfl
set_option maxRecDepth 20000 in
theorem mw112 : Cond.code yX3_isDigit prog_1_method_16_code 1 (some .boolean) ∈ WALL := ez_mem (List.mem_append_right _ (List.mem_append_left _ (List.mem_of_getElem? (i := 112) rfl))) rfl
set_option maxRecDepth 20000 in
theorem mw113 : Cond.methodLink RX3 107 yX3_isLetter ∈ WALL := ez_mem (List.mem_append_right _ (List.mem_append_left _ (List.mem_of_getElem? (i := 113) rfl))) rfl
set_option maxRecDepth 20000 in
theorem mw114 : Cond.static yX3_isLetter ∈ WALL := ez_mem (List.mem_append_right _ (List.mem_append_left _ (List.mem_of_getElem? (i := 114) rfl))) rfl
set_option maxRecDepth 20000 in
theorem mw115 : Cond.code yX3_isLetter prog_1_method_17_code 1 (some .boolean) ∈ WALL := ez_mem (List.mem_append_right _ (List.mem_append_left _ (List.mem_of_getElem? (i := 115) rfl))) rfl
set_option maxRecDepth 20000 in
theorem mw128 : Cond.methodLink RX3 42 yX3_isName ∈ WALL := ez_mem (List.mem_append_right _ (List.mem_append_left _ (List.mem_of_getElem? (i := 128) rfl))) rfl
set_option maxRecDepth 20000 in
theorem mw129 : Cond.static yX3_isName ∈ WALL := ez_mem (List.mem_append_right _ (List.mem_append_left _ (List.mem_of_getElem? (i := 129) rfl))) rfl
set_option maxRecDepth 20000 in
theorem mw130 : Cond.code yX3_isName prog_1_method_18_code 1 (some .boolean) ∈ WALL := ez_mem (List.mem_append_right _ (List.mem_append_left _ (List.mem_of_getElem? (i := 130) rfl))) rfl
set_option maxRecDepth 20000 in
theorem mw141 : Cond.fieldLink RX1 9 RX1 "text" "[C" ∈ WALL := ez_mem (List.mem_append_right _ (List.mem_append_left _ (List.mem_of_getElem? (i := 141) rfl))) rfl
set_option maxRecDepth 20000 in
theorem mw142 : Cond.fieldLink RX1 15 RX1 "size" "I" ∈ WALL := ez_mem (List.mem_append_right _ (List.mem_append_left _ (List.mem_of_getElem? (i := 142) rfl))) rfl
set_option maxRecDepth 20000 in
theorem mw143 : Cond.fieldLink RX1 19 RX1 "named" "[I" ∈ WALL := ez_mem (List.mem_append_right _ (List.mem_append_left _ (List.mem_of_getElem? (i := 143) rfl))) rfl
set_option maxRecDepth 20000 in
theorem mw144 : Cond.fieldLink RX1 23 RX1 "store" "LEnclosureCalculator$Parts;" ∈ WALL := ez_mem (List.mem_append_right _ (List.mem_append_left _ (List.mem_of_getElem? (i := 144) rfl))) rfl
set_option maxRecDepth 20000 in
theorem mw145 : Cond.fieldLink RX1 27 RX1 "position" "I" ∈ WALL := ez_mem (List.mem_append_right _ (List.mem_append_left _ (List.mem_of_getElem? (i := 145) rfl))) rfl
set_option maxRecDepth 20000 in
theorem mw146 : Cond.fieldLink RX1 30 RX1 "unknownLetter" "Z" ∈ WALL := ez_mem (List.mem_append_right _ (List.mem_append_left _ (List.mem_of_getElem? (i := 146) rfl))) rfl
set_option maxRecDepth 20000 in
theorem mw147 : Cond.laysFinal RX1 RX1 "text" "[C" ∈ WALL := ez_mem (List.mem_append_right _ (List.mem_append_left _ (List.mem_of_getElem? (i := 147) rfl))) rfl
set_option maxRecDepth 20000 in
theorem mw149 : Cond.laysFinal RX1 RX1 "size" "I" ∈ WALL := ez_mem (List.mem_append_right _ (List.mem_append_left _ (List.mem_of_getElem? (i := 149) rfl))) rfl
set_option maxRecDepth 20000 in
theorem mw151 : Cond.laysFinal RX1 RX1 "named" "[I" ∈ WALL := ez_mem (List.mem_append_right _ (List.mem_append_left _ (List.mem_of_getElem? (i := 151) rfl))) rfl
set_option maxRecDepth 20000 in
theorem mw153 : Cond.laysFinal RX1 RX1 "store" "LEnclosureCalculator$Parts;" ∈ WALL := ez_mem (List.mem_append_right _ (List.mem_append_left _ (List.mem_of_getElem? (i := 153) rfl))) rfl
set_option maxRecDepth 20000 in
theorem mw155 : Cond.lays RX1 RX1 "position" "I" ∈ WALL := ez_mem (List.mem_append_right _ (List.mem_append_left _ (List.mem_of_getElem? (i := 155) rfl))) rfl
set_option maxRecDepth 20000 in
theorem mw157 : Cond.lays RX1 RX1 "unknownLetter" "Z" ∈ WALL := ez_mem (List.mem_append_right _ (List.mem_append_left _ (List.mem_of_getElem? (i := 157) rfl))) rfl
set_option maxRecDepth 20000 in
theorem mw161 : Cond.instanceMethod yX1_readSum ∈ WALL := ez_mem (List.mem_append_right _ (List.mem_append_left _ (List.mem_of_getElem? (i := 161) rfl))) rfl
set_option maxRecDepth 20000 in
theorem mw162 : Cond.selects RX1 yX1_readSum yX1_readSum ∈ WALL := ez_mem (List.mem_append_right _ (List.mem_append_left _ (List.mem_of_getElem? (i := 162) rfl))) rfl
set_option maxRecDepth 20000 in
theorem mw163 : Cond.code yX1_readSum prog_3_method_5_code 6 (some .int) ∈ WALL := ez_mem (List.mem_append_right _ (List.mem_append_left _ (List.mem_of_getElem? (i := 163) rfl))) rfl
set_option maxRecDepth 20000 in
theorem mw164 : Cond.methodLink RX1 34 yX1_readTerm ∈ WALL := ez_mem (List.mem_append_right _ (List.mem_append_left _ (List.mem_of_getElem? (i := 164) rfl))) rfl
set_option maxRecDepth 20000 in
theorem mw166 : Cond.instanceMethod yX1_readTerm ∈ WALL := ez_mem (List.mem_append_right _ (List.mem_append_left _ (List.mem_of_getElem? (i := 166) rfl))) rfl
set_option maxRecDepth 20000 in
theorem mw167 : Cond.code yX1_readTerm prog_3_method_6_code 6 (some .int) ∈ WALL := ez_mem (List.mem_append_right _ (List.mem_append_left _ (List.mem_of_getElem? (i := 167) rfl))) rfl
set_option maxRecDepth 20000 in
theorem mw168 : Cond.methodLink RX1 48 yX1_readFactor ∈ WALL := ez_mem (List.mem_append_right _ (List.mem_append_left _ (List.mem_of_getElem? (i := 168) rfl))) rfl
set_option maxRecDepth 20000 in
theorem mw170 : Cond.instanceMethod yX1_readFactor ∈ WALL := ez_mem (List.mem_append_right _ (List.mem_append_left _ (List.mem_of_getElem? (i := 170) rfl))) rfl
set_option maxRecDepth 20000 in
theorem mw171 : Cond.code yX1_readFactor prog_3_method_8_code 5 (some .int) ∈ WALL := ez_mem (List.mem_append_right _ (List.mem_append_left _ (List.mem_of_getElem? (i := 171) rfl))) rfl
set_option maxRecDepth 20000 in
theorem mw172 : Cond.methodLink RX1 38 yX1_current ∈ WALL := ez_mem (List.mem_append_right _ (List.mem_append_left _ (List.mem_of_getElem? (i := 172) rfl))) rfl
set_option maxRecDepth 20000 in
theorem mw174 : Cond.instanceMethod yX1_current ∈ WALL := ez_mem (List.mem_append_right _ (List.mem_append_left _ (List.mem_of_getElem? (i := 174) rfl))) rfl
set_option maxRecDepth 20000 in
theorem mw175 : Cond.code yX1_current prog_3_method_4_code 1 (some .char) ∈ WALL := ez_mem (List.mem_append_right _ (List.mem_append_left _ (List.mem_of_getElem? (i := 175) rfl))) rfl
set_option maxRecDepth 20000 in
theorem mw176 : Cond.methodLink RX1 54 yX1_readAtom ∈ WALL := ez_mem (List.mem_append_right _ (List.mem_append_left _ (List.mem_of_getElem? (i := 176) rfl))) rfl
set_option maxRecDepth 20000 in
theorem mw178 : Cond.instanceMethod yX1_readAtom ∈ WALL := ez_mem (List.mem_append_right _ (List.mem_append_left _ (List.mem_of_getElem? (i := 178) rfl))) rfl
set_option maxRecDepth 20000 in
theorem mw179 : Cond.code yX1_readAtom prog_3_method_10_code 4 (some .int) ∈ WALL := ez_mem (List.mem_append_right _ (List.mem_append_left _ (List.mem_of_getElem? (i := 179) rfl))) rfl
set_option maxRecDepth 20000 in
theorem mw181 : Cond.methodLink RX1 68 yX1_readNumber ∈ WALL := ez_mem (List.mem_append_right _ (List.mem_append_left _ (List.mem_of_getElem? (i := 181) rfl))) rfl
set_option maxRecDepth 20000 in
theorem mw183 : Cond.instanceMethod yX1_readNumber ∈ WALL := ez_mem (List.mem_append_right _ (List.mem_append_left _ (List.mem_of_getElem? (i := 183) rfl))) rfl
set_option maxRecDepth 20000 in
theorem mw184 : Cond.code yX1_readNumber prog_3_method_11_code 3 (some .int) ∈ WALL := ez_mem (List.mem_append_right _ (List.mem_append_left _ (List.mem_of_getElem? (i := 184) rfl))) rfl
set_option maxRecDepth 20000 in
theorem mw185 : Cond.methodLink RX1 81 yX0_makeWhole ∈ WALL := ez_mem (List.mem_append_right _ (List.mem_append_left _ (List.mem_of_getElem? (i := 185) rfl))) rfl
set_option maxRecDepth 20000 in
theorem mw186 : Cond.instanceMethod yX0_makeWhole ∈ WALL := ez_mem (List.mem_append_right _ (List.mem_append_left _ (List.mem_of_getElem? (i := 186) rfl))) rfl
set_option maxRecDepth 20000 in
theorem mw187 : Cond.selects RX0 yX0_makeWhole yX0_makeWhole ∈ WALL := ez_mem (List.mem_append_right _ (List.mem_append_left _ (List.mem_of_getElem? (i := 187) rfl))) rfl
set_option maxRecDepth 20000 in
theorem mw188 : Cond.code yX0_makeWhole prog_2_method_5_code 2 (some .int) ∈ WALL := ez_mem (List.mem_append_right _ (List.mem_append_left _ (List.mem_of_getElem? (i := 188) rfl))) rfl
set_option maxRecDepth 20000 in
theorem mw189 : Cond.methodLink RX0 28 yX0_make ∈ WALL := ez_mem (List.mem_append_right _ (List.mem_append_left _ (List.mem_of_getElem? (i := 189) rfl))) rfl
set_option maxRecDepth 20000 in
theorem mw191 : Cond.instanceMethod yX0_make ∈ WALL := ez_mem (List.mem_append_right _ (List.mem_append_left _ (List.mem_of_getElem? (i := 191) rfl))) rfl
set_option maxRecDepth 20000 in
theorem mw192 : Cond.code yX0_make prog_2_method_8_code 6 (some .int) ∈ WALL := ez_mem (List.mem_append_right _ (List.mem_append_left _ (List.mem_of_getElem? (i := 192) rfl))) rfl
set_option maxRecDepth 20000 in
theorem mw194 : Cond.methodLink RX1 75 yX1_readLetter ∈ WALL := ez_mem (List.mem_append_right _ (List.mem_append_left _ (List.mem_of_getElem? (i := 194) rfl))) rfl
set_option maxRecDepth 20000 in
theorem mw196 : Cond.instanceMethod yX1_readLetter ∈ WALL := ez_mem (List.mem_append_right _ (List.mem_append_left _ (List.mem_of_getElem? (i := 196) rfl))) rfl
set_option maxRecDepth 20000 in
theorem mw197 : Cond.code yX1_readLetter prog_3_method_12_code 3 (some .int) ∈ WALL := ez_mem (List.mem_append_right _ (List.mem_append_left _ (List.mem_of_getElem? (i := 197) rfl))) rfl
set_option maxRecDepth 20000 in
theorem mw198 : Cond.methodLink RX1 78 yX1_readBracket ∈ WALL := ez_mem (List.mem_append_right _ (List.mem_append_left _ (List.mem_of_getElem? (i := 198) rfl))) rfl
set_option maxRecDepth 20000 in
theorem mw200 : Cond.instanceMethod yX1_readBracket ∈ WALL := ez_mem (List.mem_append_right _ (List.mem_append_left _ (List.mem_of_getElem? (i := 200) rfl))) rfl
set_option maxRecDepth 20000 in
theorem mw201 : Cond.code yX1_readBracket prog_3_method_13_code 3 (some .int) ∈ WALL := ez_mem (List.mem_append_right _ (List.mem_append_left _ (List.mem_of_getElem? (i := 201) rfl))) rfl
set_option maxRecDepth 20000 in
theorem mw202 : Cond.methodLink RX1 84 yX1_readSum ∈ WALL := ez_mem (List.mem_append_right _ (List.mem_append_left _ (List.mem_of_getElem? (i := 202) rfl))) rfl
set_option maxRecDepth 20000 in
theorem mw203 : Cond.methodLink RX1 60 yX0_makeOfOne ∈ WALL := ez_mem (List.mem_append_right _ (List.mem_append_left _ (List.mem_of_getElem? (i := 203) rfl))) rfl
set_option maxRecDepth 20000 in
theorem mw204 : Cond.instanceMethod yX0_makeOfOne ∈ WALL := ez_mem (List.mem_append_right _ (List.mem_append_left _ (List.mem_of_getElem? (i := 204) rfl))) rfl
set_option maxRecDepth 20000 in
theorem mw205 : Cond.selects RX0 yX0_makeOfOne yX0_makeOfOne ∈ WALL := ez_mem (List.mem_append_right _ (List.mem_append_left _ (List.mem_of_getElem? (i := 205) rfl))) rfl
set_option maxRecDepth 20000 in
theorem mw206 : Cond.code yX0_makeOfOne prog_2_method_6_code 3 (some .int) ∈ WALL := ez_mem (List.mem_append_right _ (List.mem_append_left _ (List.mem_of_getElem? (i := 206) rfl))) rfl
set_option maxRecDepth 20000 in
theorem mw207 : Cond.methodLink RX1 57 yX1_readPower ∈ WALL := ez_mem (List.mem_append_right _ (List.mem_append_left _ (List.mem_of_getElem? (i := 207) rfl))) rfl
set_option maxRecDepth 20000 in
theorem mw209 : Cond.instanceMethod yX1_readPower ∈ WALL := ez_mem (List.mem_append_right _ (List.mem_append_left _ (List.mem_of_getElem? (i := 209) rfl))) rfl
set_option maxRecDepth 20000 in
theorem mw210 : Cond.code yX1_readPower prog_3_method_9_code 5 (some .int) ∈ WALL := ez_mem (List.mem_append_right _ (List.mem_append_left _ (List.mem_of_getElem? (i := 210) rfl))) rfl
set_option maxRecDepth 20000 in
theorem mw211 : Cond.methodLink RX1 51 yX0_makeOfTwo ∈ WALL := ez_mem (List.mem_append_right _ (List.mem_append_left _ (List.mem_of_getElem? (i := 211) rfl))) rfl
set_option maxRecDepth 20000 in
theorem mw212 : Cond.instanceMethod yX0_makeOfTwo ∈ WALL := ez_mem (List.mem_append_right _ (List.mem_append_left _ (List.mem_of_getElem? (i := 212) rfl))) rfl
set_option maxRecDepth 20000 in
theorem mw213 : Cond.selects RX0 yX0_makeOfTwo yX0_makeOfTwo ∈ WALL := ez_mem (List.mem_append_right _ (List.mem_append_left _ (List.mem_of_getElem? (i := 213) rfl))) rfl
set_option maxRecDepth 20000 in
theorem mw214 : Cond.code yX0_makeOfTwo prog_2_method_7_code 4 (some .int) ∈ WALL := ez_mem (List.mem_append_right _ (List.mem_append_left _ (List.mem_of_getElem? (i := 214) rfl))) rfl
set_option maxRecDepth 20000 in
theorem mw215 : Cond.methodLink RX1 44 yX1_join ∈ WALL := ez_mem (List.mem_append_right _ (List.mem_append_left _ (List.mem_of_getElem? (i := 215) rfl))) rfl
set_option maxRecDepth 20000 in
theorem mw217 : Cond.instanceMethod yX1_join ∈ WALL := ez_mem (List.mem_append_right _ (List.mem_append_left _ (List.mem_of_getElem? (i := 217) rfl))) rfl
set_option maxRecDepth 20000 in
theorem mw218 : Cond.code yX1_join prog_3_method_7_code 4 (some .int) ∈ WALL := ez_mem (List.mem_append_right _ (List.mem_append_left _ (List.mem_of_getElem? (i := 218) rfl))) rfl
set_option maxRecDepth 20000 in
theorem mw223 : Cond.methodLink RX3 120 yX1_isAtEnd ∈ WALL := ez_mem (List.mem_append_right _ (List.mem_append_left _ (List.mem_of_getElem? (i := 223) rfl))) rfl
set_option maxRecDepth 20000 in
theorem mw224 : Cond.instanceMethod yX1_isAtEnd ∈ WALL := ez_mem (List.mem_append_right _ (List.mem_append_left _ (List.mem_of_getElem? (i := 224) rfl))) rfl
set_option maxRecDepth 20000 in
theorem mw225 : Cond.selects RX1 yX1_isAtEnd yX1_isAtEnd ∈ WALL := ez_mem (List.mem_append_right _ (List.mem_append_left _ (List.mem_of_getElem? (i := 225) rfl))) rfl
set_option maxRecDepth 20000 in
theorem mw226 : Cond.code yX1_isAtEnd prog_3_method_2_code 1 (some .boolean) ∈ WALL := ez_mem (List.mem_append_right _ (List.mem_append_left _ (List.mem_of_getElem? (i := 226) rfl))) rfl
set_option maxRecDepth 20000 in
theorem mw227 : Cond.methodLink RX3 124 yX1_metUnknownLetter ∈ WALL := ez_mem (List.mem_append_right _ (List.mem_append_left _ (List.mem_of_getElem? (i := 227) rfl))) rfl
set_option maxRecDepth 20000 in
theorem mw228 : Cond.instanceMethod yX1_metUnknownLetter ∈ WALL := ez_mem (List.mem_append_right _ (List.mem_append_left _ (List.mem_of_getElem? (i := 228) rfl))) rfl
set_option maxRecDepth 20000 in
theorem mw229 : Cond.selects RX1 yX1_metUnknownLetter yX1_metUnknownLetter ∈ WALL := ez_mem (List.mem_append_right _ (List.mem_append_left _ (List.mem_of_getElem? (i := 229) rfl))) rfl
set_option maxRecDepth 20000 in
theorem mw230 : Cond.code yX1_metUnknownLetter prog_3_method_3_code 1 (some .boolean) ∈ WALL := ez_mem (List.mem_append_right _ (List.mem_append_left _ (List.mem_of_getElem? (i := 230) rfl))) rfl
set_option maxRecDepth 20000 in
theorem mw231 : Cond.methodLink RX3 127 yX0_isOverfull ∈ WALL := ez_mem (List.mem_append_right _ (List.mem_append_left _ (List.mem_of_getElem? (i := 231) rfl))) rfl
set_option maxRecDepth 20000 in
theorem mw232 : Cond.instanceMethod yX0_isOverfull ∈ WALL := ez_mem (List.mem_append_right _ (List.mem_append_left _ (List.mem_of_getElem? (i := 232) rfl))) rfl
set_option maxRecDepth 20000 in
theorem mw233 : Cond.selects RX0 yX0_isOverfull yX0_isOverfull ∈ WALL := ez_mem (List.mem_append_right _ (List.mem_append_left _ (List.mem_of_getElem? (i := 233) rfl))) rfl
set_option maxRecDepth 20000 in
theorem mw234 : Cond.code yX0_isOverfull prog_2_method_3_code 1 (some .boolean) ∈ WALL := ez_mem (List.mem_append_right _ (List.mem_append_left _ (List.mem_of_getElem? (i := 234) rfl))) rfl
set_option maxRecDepth 20000 in
theorem mw243 : Cond.methodLink RX3 66 yX3_isGiven ∈ WALL := ez_mem (List.mem_append_right _ (List.mem_append_right _ (List.mem_append_left _ (List.mem_of_getElem? (i := 3) rfl)))) rfl
set_option maxRecDepth 20000 in
theorem mw245 : Cond.instanceMethod yX3_isGiven ∈ WALL := ez_mem (List.mem_append_right _ (List.mem_append_right _ (List.mem_append_left _ (List.mem_of_getElem? (i := 5) rfl)))) rfl
set_option maxRecDepth 20000 in
theorem mw246 : Cond.code yX3_isGiven prog_1_method_19_code 2 (some .boolean) ∈ WALL := ez_mem (List.mem_append_right _ (List.mem_append_right _ (List.mem_append_left _ (List.mem_of_getElem? (i := 6) rfl)))) rfl
set_option maxRecDepth 20000 in
theorem mw247 : Cond.methodLink RX3 69 yX2_choose ∈ WALL := ez_mem (List.mem_append_right _ (List.mem_append_right _ (List.mem_append_left _ (List.mem_of_getElem? (i := 7) rfl)))) rfl
set_option maxRecDepth 20000 in
theorem mw248 : Cond.instanceMethod yX2_choose ∈ WALL := ez_mem (List.mem_append_right _ (List.mem_append_right _ (List.mem_append_left _ (List.mem_of_getElem? (i := 8) rfl)))) rfl
set_option maxRecDepth 20000 in
theorem mw249 : Cond.selects RX2 yX2_choose yX2_choose ∈ WALL := ez_mem (List.mem_append_right _ (List.mem_append_right _ (List.mem_append_left _ (List.mem_of_getElem? (i := 9) rfl)))) rfl
set_option maxRecDepth 20000 in
theorem mw250 : Cond.code yX2_choose prog_4_method_2_code 6 (some .int) ∈ WALL := ez_mem (List.mem_append_right _ (List.mem_append_right _ (List.mem_append_left _ (List.mem_of_getElem? (i := 10) rfl)))) rfl
set_option maxRecDepth 20000 in
theorem mw251 : Cond.methodLink RX2 26 yX0_firstOf ∈ WALL := ez_mem (List.mem_append_right _ (List.mem_append_right _ (List.mem_append_left _ (List.mem_of_getElem? (i := 11) rfl)))) rfl
set_option maxRecDepth 20000 in
theorem mw252 : Cond.instanceMethod yX0_firstOf ∈ WALL := ez_mem (List.mem_append_right _ (List.mem_append_right _ (List.mem_append_left _ (List.mem_of_getElem? (i := 12) rfl)))) rfl
set_option maxRecDepth 20000 in
theorem mw253 : Cond.selects RX0 yX0_firstOf yX0_firstOf ∈ WALL := ez_mem (List.mem_append_right _ (List.mem_append_right _ (List.mem_append_left _ (List.mem_of_getElem? (i := 13) rfl)))) rfl
set_option maxRecDepth 20000 in
theorem mw254 : Cond.code yX0_firstOf prog_2_method_12_code 2 (some .int) ∈ WALL := ez_mem (List.mem_append_right _ (List.mem_append_right _ (List.mem_append_left _ (List.mem_of_getElem? (i := 14) rfl)))) rfl
set_option maxRecDepth 20000 in
theorem mw255 : Cond.methodLink RX0 32 yX0_has ∈ WALL := ez_mem (List.mem_append_right _ (List.mem_append_right _ (List.mem_append_left _ (List.mem_of_getElem? (i := 15) rfl)))) rfl
set_option maxRecDepth 20000 in
theorem mw256 : Cond.static yX0_has ∈ WALL := ez_mem (List.mem_append_right _ (List.mem_append_right _ (List.mem_append_left _ (List.mem_of_getElem? (i := 16) rfl)))) rfl
set_option maxRecDepth 20000 in
theorem mw257 : Cond.code yX0_has prog_2_method_9_code 1 (some .boolean) ∈ WALL := ez_mem (List.mem_append_right _ (List.mem_append_right _ (List.mem_append_left _ (List.mem_of_getElem? (i := 17) rfl)))) rfl
set_option maxRecDepth 20000 in
theorem mw258 : Cond.methodLink RX2 30 yX2_chooseOperand ∈ WALL := ez_mem (List.mem_append_right _ (List.mem_append_right _ (List.mem_append_left _ (List.mem_of_getElem? (i := 18) rfl)))) rfl
set_option maxRecDepth 20000 in
theorem mw260 : Cond.instanceMethod yX2_chooseOperand ∈ WALL := ez_mem (List.mem_append_right _ (List.mem_append_right _ (List.mem_append_left _ (List.mem_of_getElem? (i := 20) rfl)))) rfl
set_option maxRecDepth 20000 in
theorem mw261 : Cond.code yX2_chooseOperand prog_4_method_3_code 2 none ∈ WALL := ez_mem (List.mem_append_right _ (List.mem_append_right _ (List.mem_append_left _ (List.mem_of_getElem? (i := 21) rfl)))) rfl
set_option maxRecDepth 20000 in
theorem mw262 : Cond.methodLink RX2 37 yX0_has ∈ WALL := ez_mem (List.mem_append_right _ (List.mem_append_right _ (List.mem_append_left _ (List.mem_of_getElem? (i := 22) rfl)))) rfl
set_option maxRecDepth 20000 in
theorem mw263 : Cond.methodLink RX2 34 yX0_secondOf ∈ WALL := ez_mem (List.mem_append_right _ (List.mem_append_right _ (List.mem_append_left _ (List.mem_of_getElem? (i := 23) rfl)))) rfl
set_option maxRecDepth 20000 in
theorem mw264 : Cond.instanceMethod yX0_secondOf ∈ WALL := ez_mem (List.mem_append_right _ (List.mem_append_right _ (List.mem_append_left _ (List.mem_of_getElem? (i := 24) rfl)))) rfl
set_option maxRecDepth 20000 in
theorem mw265 : Cond.selects RX0 yX0_secondOf yX0_secondOf ∈ WALL := ez_mem (List.mem_append_right _ (List.mem_append_right _ (List.mem_append_left _ (List.mem_of_getElem? (i := 25) rfl)))) rfl
set_option maxRecDepth 20000 in
theorem mw266 : Cond.code yX0_secondOf prog_2_method_13_code 2 (some .int) ∈ WALL := ez_mem (List.mem_append_right _ (List.mem_append_right _ (List.mem_append_left _ (List.mem_of_getElem? (i := 26) rfl)))) rfl
set_option maxRecDepth 20000 in
theorem mw271 : Cond.methodLink RX3 73 yX3_isTrial ∈ WALL := ez_mem (List.mem_append_right _ (List.mem_append_right _ (List.mem_append_left _ (List.mem_of_getElem? (i := 31) rfl)))) rfl
set_option maxRecDepth 20000 in
theorem mw272 : Cond.static yX3_isTrial ∈ WALL := ez_mem (List.mem_append_right _ (List.mem_append_right _ (List.mem_append_left _ (List.mem_of_getElem? (i := 32) rfl)))) rfl
set_option maxRecDepth 20000 in
theorem mw273 : Cond.code yX3_isTrial prog_1_method_20_code 2 (some .boolean) ∈ WALL := ez_mem (List.mem_append_right _ (List.mem_append_right _ (List.mem_append_left _ (List.mem_of_getElem? (i := 33) rfl)))) rfl
set_option maxRecDepth 20000 in
theorem mw274 : Cond.methodLink RX3 80 yX3_trySteps ∈ WALL := ez_mem (List.mem_append_right _ (List.mem_append_right _ (List.mem_append_left _ (List.mem_of_getElem? (i := 34) rfl)))) rfl
set_option maxRecDepth 20000 in
theorem mw276 : Cond.instanceMethod yX3_trySteps ∈ WALL := ez_mem (List.mem_append_right _ (List.mem_append_right _ (List.mem_append_left _ (List.mem_of_getElem? (i := 36) rfl)))) rfl
set_option maxRecDepth 20000 in
theorem mw277 : Cond.code yX3_trySteps prog_1_method_25_code 12 (some .int) ∈ WALL := ez_mem (List.mem_append_right _ (List.mem_append_right _ (List.mem_append_left _ (List.mem_of_getElem? (i := 37) rfl)))) rfl
set_option maxRecDepth 20000 in
theorem mw278 : Cond.methodLink RX3 130 yJ9_minI ∈ WALL := ez_mem (List.mem_append_right _ (List.mem_append_right _ (List.mem_append_left _ (List.mem_of_getElem? (i := 38) rfl)))) rfl
set_option maxRecDepth 20000 in
theorem mw279 : Cond.static yJ9_minI ∈ WALL := ez_mem (List.mem_append_right _ (List.mem_append_right _ (List.mem_append_left _ (List.mem_of_getElem? (i := 39) rfl)))) rfl
set_option maxRecDepth 20000 in
theorem mw280 : Cond.code yJ9_minI prog_7_method_69_code 2 (some .int) ∈ WALL := ez_mem (List.mem_append_right _ (List.mem_append_right _ (List.mem_append_left _ (List.mem_of_getElem? (i := 40) rfl)))) rfl
set_option maxRecDepth 20000 in
theorem mw281 : Cond.methodLink RX3 136 yX2_workOut ∈ WALL := ez_mem (List.mem_append_right _ (List.mem_append_right _ (List.mem_append_left _ (List.mem_of_getElem? (i := 41) rfl)))) rfl
set_option maxRecDepth 20000 in
theorem mw282 : Cond.instanceMethod yX2_workOut ∈ WALL := ez_mem (List.mem_append_right _ (List.mem_append_right _ (List.mem_append_left _ (List.mem_of_getElem? (i := 42) rfl)))) rfl
set_option maxRecDepth 20000 in
theorem mw283 : Cond.selects RX2 yX2_workOut yX2_workOut ∈ WALL := ez_mem (List.mem_append_right _ (List.mem_append_right _ (List.mem_append_left _ (List.mem_of_getElem? (i := 43) rfl)))) rfl
set_option maxRecDepth 20000 in
theorem mw284 : Cond.code yX2_workOut prog_4_method_4_code 4 none ∈ WALL := ez_mem (List.mem_append_right _ (List.mem_append_right _ (List.mem_append_left _ (List.mem_of_getElem? (i := 44) rfl)))) rfl
set_option maxRecDepth 20000 in
theorem mw285 : Cond.methodLink RX2 45 yX2_workOutPart ∈ WALL := ez_mem (List.mem_append_right _ (List.mem_append_right _ (List.mem_append_left _ (List.mem_of_getElem? (i := 45) rfl)))) rfl
set_option maxRecDepth 20000 in
theorem mw287 : Cond.instanceMethod yX2_workOutPart ∈ WALL := ez_mem (List.mem_append_right _ (List.mem_append_right _ (List.mem_append_left _ (List.mem_of_getElem? (i := 47) rfl)))) rfl
set_option maxRecDepth 20000 in
theorem mw288 : Cond.code yX2_workOutPart prog_4_method_11_code 5 none ∈ WALL := ez_mem (List.mem_append_right _ (List.mem_append_right _ (List.mem_append_left _ (List.mem_of_getElem? (i := 48) rfl)))) rfl
set_option maxRecDepth 20000 in
theorem mw289 : Cond.methodLink RX2 49 yX2_isFalse ∈ WALL := ez_mem (List.mem_append_right _ (List.mem_append_right _ (List.mem_append_left _ (List.mem_of_getElem? (i := 49) rfl)))) rfl
set_option maxRecDepth 20000 in
theorem mw290 : Cond.instanceMethod yX2_isFalse ∈ WALL := ez_mem (List.mem_append_right _ (List.mem_append_right _ (List.mem_append_left _ (List.mem_of_getElem? (i := 50) rfl)))) rfl
set_option maxRecDepth 20000 in
theorem mw291 : Cond.selects RX2 yX2_isFalse yX2_isFalse ∈ WALL := ez_mem (List.mem_append_right _ (List.mem_append_right _ (List.mem_append_left _ (List.mem_of_getElem? (i := 51) rfl)))) rfl
set_option maxRecDepth 20000 in
theorem mw292 : Cond.code yX2_isFalse prog_4_method_6_code 2 (some .boolean) ∈ WALL := ez_mem (List.mem_append_right _ (List.mem_append_right _ (List.mem_append_left _ (List.mem_of_getElem? (i := 52) rfl)))) rfl
set_option maxRecDepth 20000 in
theorem mw293 : Cond.methodLink RX2 52 yX2_setState ∈ WALL := ez_mem (List.mem_append_right _ (List.mem_append_right _ (List.mem_append_left _ (List.mem_of_getElem? (i := 53) rfl)))) rfl
set_option maxRecDepth 20000 in
theorem mw295 : Cond.instanceMethod yX2_setState ∈ WALL := ez_mem (List.mem_append_right _ (List.mem_append_right _ (List.mem_append_left _ (List.mem_of_getElem? (i := 55) rfl)))) rfl
set_option maxRecDepth 20000 in
theorem mw296 : Cond.code yX2_setState prog_4_method_12_code 3 none ∈ WALL := ez_mem (List.mem_append_right _ (List.mem_append_right _ (List.mem_append_left _ (List.mem_of_getElem? (i := 56) rfl)))) rfl
set_option maxRecDepth 20000 in
theorem mw297 : Cond.methodLink RX2 56 yX2_isOpen ∈ WALL := ez_mem (List.mem_append_right _ (List.mem_append_right _ (List.mem_append_left _ (List.mem_of_getElem? (i := 57) rfl)))) rfl
set_option maxRecDepth 20000 in
theorem mw299 : Cond.instanceMethod yX2_isOpen ∈ WALL := ez_mem (List.mem_append_right _ (List.mem_append_right _ (List.mem_append_left _ (List.mem_of_getElem? (i := 59) rfl)))) rfl
set_option maxRecDepth 20000 in
theorem mw300 : Cond.code yX2_isOpen prog_4_method_7_code 2 (some .boolean) ∈ WALL := ez_mem (List.mem_append_right _ (List.mem_append_right _ (List.mem_append_left _ (List.mem_of_getElem? (i := 60) rfl)))) rfl
set_option maxRecDepth 20000 in
theorem mw301 : Cond.methodLink RX2 59 yX0_sortOf ∈ WALL := ez_mem (List.mem_append_right _ (List.mem_append_right _ (List.mem_append_left _ (List.mem_of_getElem? (i := 61) rfl)))) rfl
set_option maxRecDepth 20000 in
theorem mw302 : Cond.instanceMethod yX0_sortOf ∈ WALL := ez_mem (List.mem_append_right _ (List.mem_append_right _ (List.mem_append_left _ (List.mem_of_getElem? (i := 62) rfl)))) rfl
set_option maxRecDepth 20000 in
theorem mw303 : Cond.selects RX0 yX0_sortOf yX0_sortOf ∈ WALL := ez_mem (List.mem_append_right _ (List.mem_append_right _ (List.mem_append_left _ (List.mem_of_getElem? (i := 63) rfl)))) rfl
set_option maxRecDepth 20000 in
theorem mw304 : Cond.code yX0_sortOf prog_2_method_10_code 2 (some .int) ∈ WALL := ez_mem (List.mem_append_right _ (List.mem_append_right _ (List.mem_append_left _ (List.mem_of_getElem? (i := 64) rfl)))) rfl
set_option maxRecDepth 20000 in
theorem mw305 : Cond.methodLink RX2 62 yX0_valueOf ∈ WALL := ez_mem (List.mem_append_right _ (List.mem_append_right _ (List.mem_append_left _ (List.mem_of_getElem? (i := 65) rfl)))) rfl
set_option maxRecDepth 20000 in
theorem mw306 : Cond.instanceMethod yX0_valueOf ∈ WALL := ez_mem (List.mem_append_right _ (List.mem_append_right _ (List.mem_append_left _ (List.mem_of_getElem? (i := 66) rfl)))) rfl
set_option maxRecDepth 20000 in
theorem mw307 : Cond.selects RX0 yX0_valueOf yX0_valueOf ∈ WALL := ez_mem (List.mem_append_right _ (List.mem_append_right _ (List.mem_append_left _ (List.mem_of_getElem? (i := 67) rfl)))) rfl
set_option maxRecDepth 20000 in
theorem mw308 : Cond.code yX0_valueOf prog_2_method_11_code 2 (some .int) ∈ WALL := ez_mem (List.mem_append_right _ (List.mem_append_right _ (List.mem_append_left _ (List.mem_of_getElem? (i := 68) rfl)))) rfl
set_option maxRecDepth 20000 in
theorem mw309 : Cond.methodLink RX2 65 yX2_setWhole ∈ WALL := ez_mem (List.mem_append_right _ (List.mem_append_right _ (List.mem_append_left _ (List.mem_of_getElem? (i := 69) rfl)))) rfl
set_option maxRecDepth 20000 in
theorem mw311 : Cond.instanceMethod yX2_setWhole ∈ WALL := ez_mem (List.mem_append_right _ (List.mem_append_right _ (List.mem_append_left _ (List.mem_of_getElem? (i := 71) rfl)))) rfl
set_option maxRecDepth 20000 in
theorem mw312 : Cond.code yX2_setWhole prog_4_method_14_code 4 none ∈ WALL := ez_mem (List.mem_append_right _ (List.mem_append_right _ (List.mem_append_left _ (List.mem_of_getElem? (i := 72) rfl)))) rfl
set_option maxRecDepth 20000 in
theorem mw313 : Cond.methodLink RX2 76 yX2_setSpan ∈ WALL := ez_mem (List.mem_append_right _ (List.mem_append_right _ (List.mem_append_left _ (List.mem_of_getElem? (i := 73) rfl)))) rfl
set_option maxRecDepth 20000 in
theorem mw315 : Cond.instanceMethod yX2_setSpan ∈ WALL := ez_mem (List.mem_append_right _ (List.mem_append_right _ (List.mem_append_left _ (List.mem_of_getElem? (i := 75) rfl)))) rfl
set_option maxRecDepth 20000 in
theorem mw316 : Cond.code yX2_setSpan prog_4_method_13_code 8 none ∈ WALL := ez_mem (List.mem_append_right _ (List.mem_append_right _ (List.mem_append_left _ (List.mem_of_getElem? (i := 76) rfl)))) rfl
set_option maxRecDepth 20000 in
theorem mw317 : Cond.constantLong RX2 93 4096 ∈ WALL := ez_mem (List.mem_append_right _ (List.mem_append_right _ (List.mem_append_left _ (List.mem_of_getElem? (i := 77) rfl)))) rfl
set_option maxRecDepth 20000 in
theorem mw318 : Cond.methodLink RX2 69 yX2_highOf ∈ WALL := ez_mem (List.mem_append_right _ (List.mem_append_right _ (List.mem_append_left _ (List.mem_of_getElem? (i := 78) rfl)))) rfl
set_option maxRecDepth 20000 in
theorem mw319 : Cond.instanceMethod yX2_highOf ∈ WALL := ez_mem (List.mem_append_right _ (List.mem_append_right _ (List.mem_append_left _ (List.mem_of_getElem? (i := 79) rfl)))) rfl
set_option maxRecDepth 20000 in
theorem mw320 : Cond.selects RX2 yX2_highOf yX2_highOf ∈ WALL := ez_mem (List.mem_append_right _ (List.mem_append_right _ (List.mem_append_left _ (List.mem_of_getElem? (i := 80) rfl)))) rfl
set_option maxRecDepth 20000 in
theorem mw321 : Cond.code yX2_highOf prog_4_method_10_code 2 (some .long) ∈ WALL := ez_mem (List.mem_append_right _ (List.mem_append_right _ (List.mem_append_left _ (List.mem_of_getElem? (i := 81) rfl)))) rfl
set_option maxRecDepth 20000 in
theorem mw322 : Cond.methodLink RX2 73 yX2_lowOf ∈ WALL := ez_mem (List.mem_append_right _ (List.mem_append_right _ (List.mem_append_left _ (List.mem_of_getElem? (i := 82) rfl)))) rfl
set_option maxRecDepth 20000 in
theorem mw323 : Cond.instanceMethod yX2_lowOf ∈ WALL := ez_mem (List.mem_append_right _ (List.mem_append_right _ (List.mem_append_left _ (List.mem_of_getElem? (i := 83) rfl)))) rfl
set_option maxRecDepth 20000 in
theorem mw324 : Cond.selects RX2 yX2_lowOf yX2_lowOf ∈ WALL := ez_mem (List.mem_append_right _ (List.mem_append_right _ (List.mem_append_left _ (List.mem_of_getElem? (i := 84) rfl)))) rfl
set_option maxRecDepth 20000 in
theorem mw325 : Cond.code yX2_lowOf prog_4_method_9_code 2 (some .long) ∈ WALL := ez_mem (List.mem_append_right _ (List.mem_append_right _ (List.mem_append_left _ (List.mem_of_getElem? (i := 85) rfl)))) rfl
set_option maxRecDepth 20000 in
theorem mw326 : Cond.methodLink RX2 80 yX2_multiply ∈ WALL := ez_mem (List.mem_append_right _ (List.mem_append_right _ (List.mem_append_left _ (List.mem_of_getElem? (i := 86) rfl)))) rfl
set_option maxRecDepth 20000 in
theorem mw328 : Cond.instanceMethod yX2_multiply ∈ WALL := ez_mem (List.mem_append_right _ (List.mem_append_right _ (List.mem_append_left _ (List.mem_of_getElem? (i := 88) rfl)))) rfl
set_option maxRecDepth 20000 in
theorem mw329 : Cond.code yX2_multiply prog_4_method_16_code 16 none ∈ WALL := ez_mem (List.mem_append_right _ (List.mem_append_right _ (List.mem_append_left _ (List.mem_of_getElem? (i := 89) rfl)))) rfl
set_option maxRecDepth 20000 in
theorem mw330 : Cond.methodLink RX2 95 yJ9_minL ∈ WALL := ez_mem (List.mem_append_right _ (List.mem_append_right _ (List.mem_append_left _ (List.mem_of_getElem? (i := 90) rfl)))) rfl
set_option maxRecDepth 20000 in
theorem mw331 : Cond.static yJ9_minL ∈ WALL := ez_mem (List.mem_append_right _ (List.mem_append_right _ (List.mem_append_left _ (List.mem_of_getElem? (i := 91) rfl)))) rfl
set_option maxRecDepth 20000 in
theorem mw332 : Cond.code yJ9_minL prog_7_method_70_code 4 (some .long) ∈ WALL := ez_mem (List.mem_append_right _ (List.mem_append_right _ (List.mem_append_left _ (List.mem_of_getElem? (i := 92) rfl)))) rfl
set_option maxRecDepth 20000 in
theorem mw333 : Cond.methodLink RX2 101 yJ9_maxL ∈ WALL := ez_mem (List.mem_append_right _ (List.mem_append_right _ (List.mem_append_left _ (List.mem_of_getElem? (i := 93) rfl)))) rfl
set_option maxRecDepth 20000 in
theorem mw334 : Cond.static yJ9_maxL ∈ WALL := ez_mem (List.mem_append_right _ (List.mem_append_right _ (List.mem_append_left _ (List.mem_of_getElem? (i := 94) rfl)))) rfl
set_option maxRecDepth 20000 in
theorem mw335 : Cond.code yJ9_maxL prog_7_method_66_code 4 (some .long) ∈ WALL := ez_mem (List.mem_append_right _ (List.mem_append_right _ (List.mem_append_left _ (List.mem_of_getElem? (i := 95) rfl)))) rfl
set_option maxRecDepth 20000 in
theorem mw336 : Cond.methodLink RX2 104 yX2_setSpanOfSquaredUnits ∈ WALL := ez_mem (List.mem_append_right _ (List.mem_append_right _ (List.mem_append_left _ (List.mem_of_getElem? (i := 96) rfl)))) rfl
set_option maxRecDepth 20000 in
theorem mw338 : Cond.instanceMethod yX2_setSpanOfSquaredUnits ∈ WALL := ez_mem (List.mem_append_right _ (List.mem_append_right _ (List.mem_append_left _ (List.mem_of_getElem? (i := 98) rfl)))) rfl
set_option maxRecDepth 20000 in
theorem mw339 : Cond.code yX2_setSpanOfSquaredUnits prog_4_method_15_code 6 none ∈ WALL := ez_mem (List.mem_append_right _ (List.mem_append_right _ (List.mem_append_left _ (List.mem_of_getElem? (i := 99) rfl)))) rfl
set_option maxRecDepth 20000 in
theorem mw340 : Cond.methodLink RX2 84 yX2_divide ∈ WALL := ez_mem (List.mem_append_right _ (List.mem_append_right _ (List.mem_append_left _ (List.mem_of_getElem? (i := 100) rfl)))) rfl
set_option maxRecDepth 20000 in
theorem mw342 : Cond.instanceMethod yX2_divide ∈ WALL := ez_mem (List.mem_append_right _ (List.mem_append_right _ (List.mem_append_left _ (List.mem_of_getElem? (i := 102) rfl)))) rfl
set_option maxRecDepth 20000 in
theorem mw343 : Cond.code yX2_divide prog_4_method_18_code 8 none ∈ WALL := ez_mem (List.mem_append_right _ (List.mem_append_right _ (List.mem_append_left _ (List.mem_of_getElem? (i := 103) rfl)))) rfl
set_option maxRecDepth 20000 in
theorem mw344 : Cond.methodLink RX2 107 yX2_leastRatio ∈ WALL := ez_mem (List.mem_append_right _ (List.mem_append_right _ (List.mem_append_left _ (List.mem_of_getElem? (i := 104) rfl)))) rfl
set_option maxRecDepth 20000 in
theorem mw346 : Cond.instanceMethod yX2_leastRatio ∈ WALL := ez_mem (List.mem_append_right _ (List.mem_append_right _ (List.mem_append_left _ (List.mem_of_getElem? (i := 106) rfl)))) rfl
set_option maxRecDepth 20000 in
theorem mw347 : Cond.code yX2_leastRatio prog_4_method_19_code 4 (some .long) ∈ WALL := ez_mem (List.mem_append_right _ (List.mem_append_right _ (List.mem_append_left _ (List.mem_of_getElem? (i := 107) rfl)))) rfl
set_option maxRecDepth 20000 in
theorem mw348 : Cond.methodLink RX2 114 yX2_floorRatio ∈ WALL := ez_mem (List.mem_append_right _ (List.mem_append_right _ (List.mem_append_left _ (List.mem_of_getElem? (i := 108) rfl)))) rfl
set_option maxRecDepth 20000 in
theorem mw350 : Cond.instanceMethod yX2_floorRatio ∈ WALL := ez_mem (List.mem_append_right _ (List.mem_append_right _ (List.mem_append_left _ (List.mem_of_getElem? (i := 110) rfl)))) rfl
set_option maxRecDepth 20000 in
theorem mw351 : Cond.code yX2_floorRatio prog_4_method_21_code 5 (some .long) ∈ WALL := ez_mem (List.mem_append_right _ (List.mem_append_right _ (List.mem_append_left _ (List.mem_of_getElem? (i := 111) rfl)))) rfl
set_option maxRecDepth 20000 in
theorem mw352 : Cond.methodLink RX2 117 yJ9_floorDiv ∈ WALL := ez_mem (List.mem_append_right _ (List.mem_append_right _ (List.mem_append_left _ (List.mem_of_getElem? (i := 112) rfl)))) rfl
set_option maxRecDepth 20000 in
theorem mw353 : Cond.static yJ9_floorDiv ∈ WALL := ez_mem (List.mem_append_right _ (List.mem_append_right _ (List.mem_append_left _ (List.mem_of_getElem? (i := 113) rfl)))) rfl
set_option maxRecDepth 20000 in
theorem mw354 : Cond.code yJ9_floorDiv prog_7_method_49_code 6 (some .long) ∈ WALL := ez_mem (List.mem_append_right _ (List.mem_append_right _ (List.mem_append_left _ (List.mem_of_getElem? (i := 114) rfl)))) rfl
set_option maxRecDepth 20000 in
theorem mw355 : Cond.methodLink RX2 111 yX2_greatestRatio ∈ WALL := ez_mem (List.mem_append_right _ (List.mem_append_right _ (List.mem_append_left _ (List.mem_of_getElem? (i := 115) rfl)))) rfl
set_option maxRecDepth 20000 in
theorem mw357 : Cond.instanceMethod yX2_greatestRatio ∈ WALL := ez_mem (List.mem_append_right _ (List.mem_append_right _ (List.mem_append_left _ (List.mem_of_getElem? (i := 117) rfl)))) rfl
set_option maxRecDepth 20000 in
theorem mw358 : Cond.code yX2_greatestRatio prog_4_method_20_code 4 (some .long) ∈ WALL := ez_mem (List.mem_append_right _ (List.mem_append_right _ (List.mem_append_left _ (List.mem_of_getElem? (i := 118) rfl)))) rfl
set_option maxRecDepth 20000 in
theorem mw359 : Cond.methodLink RX2 87 yX2_square ∈ WALL := ez_mem (List.mem_append_right _ (List.mem_append_right _ (List.mem_append_left _ (List.mem_of_getElem? (i := 119) rfl)))) rfl
set_option maxRecDepth 20000 in
theorem mw361 : Cond.instanceMethod yX2_square ∈ WALL := ez_mem (List.mem_append_right _ (List.mem_append_right _ (List.mem_append_left _ (List.mem_of_getElem? (i := 121) rfl)))) rfl
set_option maxRecDepth 20000 in
theorem mw362 : Cond.code yX2_square prog_4_method_17_code 8 none ∈ WALL := ez_mem (List.mem_append_right _ (List.mem_append_right _ (List.mem_append_left _ (List.mem_of_getElem? (i := 122) rfl)))) rfl
set_option maxRecDepth 20000 in
theorem mw363 : Cond.methodLink RX2 90 yX2_takeRoot ∈ WALL := ez_mem (List.mem_append_right _ (List.mem_append_right _ (List.mem_append_left _ (List.mem_of_getElem? (i := 123) rfl)))) rfl
set_option maxRecDepth 20000 in
theorem mw365 : Cond.instanceMethod yX2_takeRoot ∈ WALL := ez_mem (List.mem_append_right _ (List.mem_append_right _ (List.mem_append_left _ (List.mem_of_getElem? (i := 125) rfl)))) rfl
set_option maxRecDepth 20000 in
theorem mw366 : Cond.code yX2_takeRoot prog_4_method_22_code 9 none ∈ WALL := ez_mem (List.mem_append_right _ (List.mem_append_right _ (List.mem_append_left _ (List.mem_of_getElem? (i := 126) rfl)))) rfl
set_option maxRecDepth 20000 in
theorem mw367 : Cond.methodLink RX2 120 yX2_floorRoot ∈ WALL := ez_mem (List.mem_append_right _ (List.mem_append_right _ (List.mem_append_left _ (List.mem_of_getElem? (i := 127) rfl)))) rfl
set_option maxRecDepth 20000 in
theorem mw368 : Cond.static yX2_floorRoot ∈ WALL := ez_mem (List.mem_append_right _ (List.mem_append_right _ (List.mem_append_left _ (List.mem_of_getElem? (i := 128) rfl)))) rfl
set_option maxRecDepth 20000 in
theorem mw369 : Cond.code yX2_floorRoot prog_4_method_23_code 7 (some .long) ∈ WALL := ez_mem (List.mem_append_right _ (List.mem_append_right _ (List.mem_append_left _ (List.mem_of_getElem? (i := 129) rfl)))) rfl
set_option maxRecDepth 20000 in
theorem mw370 : Cond.methodLink RX3 140 yX3_judgeTwo ∈ WALL := ez_mem (List.mem_append_right _ (List.mem_append_right _ (List.mem_append_left _ (List.mem_of_getElem? (i := 130) rfl)))) rfl
set_option maxRecDepth 20000 in
theorem mw372 : Cond.instanceMethod yX3_judgeTwo ∈ WALL := ez_mem (List.mem_append_right _ (List.mem_append_right _ (List.mem_append_left _ (List.mem_of_getElem? (i := 132) rfl)))) rfl
set_option maxRecDepth 20000 in
theorem mw373 : Cond.code yX3_judgeTwo prog_1_method_27_code 9 (some .int) ∈ WALL := ez_mem (List.mem_append_right _ (List.mem_append_right _ (List.mem_append_left _ (List.mem_of_getElem? (i := 133) rfl)))) rfl
set_option maxRecDepth 20000 in
theorem mw374 : Cond.methodLink RX3 148 yX2_isFalse ∈ WALL := ez_mem (List.mem_append_right _ (List.mem_append_right _ (List.mem_append_left _ (List.mem_of_getElem? (i := 134) rfl)))) rfl
set_option maxRecDepth 20000 in
theorem mw375 : Cond.methodLink RX3 151 yX2_hasSpan ∈ WALL := ez_mem (List.mem_append_right _ (List.mem_append_right _ (List.mem_append_left _ (List.mem_of_getElem? (i := 135) rfl)))) rfl
set_option maxRecDepth 20000 in
theorem mw376 : Cond.instanceMethod yX2_hasSpan ∈ WALL := ez_mem (List.mem_append_right _ (List.mem_append_right _ (List.mem_append_left _ (List.mem_of_getElem? (i := 136) rfl)))) rfl
set_option maxRecDepth 20000 in
theorem mw377 : Cond.selects RX2 yX2_hasSpan yX2_hasSpan ∈ WALL := ez_mem (List.mem_append_right _ (List.mem_append_right _ (List.mem_append_left _ (List.mem_of_getElem? (i := 137) rfl)))) rfl
set_option maxRecDepth 20000 in
theorem mw378 : Cond.code yX2_hasSpan prog_4_method_8_code 2 (some .boolean) ∈ WALL := ez_mem (List.mem_append_right _ (List.mem_append_right _ (List.mem_append_left _ (List.mem_of_getElem? (i := 138) rfl)))) rfl
set_option maxRecDepth 20000 in
theorem mw379 : Cond.methodLink RX3 117 yX2_highOf ∈ WALL := ez_mem (List.mem_append_right _ (List.mem_append_right _ (List.mem_append_left _ (List.mem_of_getElem? (i := 139) rfl)))) rfl
set_option maxRecDepth 20000 in
theorem mw380 : Cond.methodLink RX3 113 yX2_lowOf ∈ WALL := ez_mem (List.mem_append_right _ (List.mem_append_right _ (List.mem_append_left _ (List.mem_of_getElem? (i := 140) rfl)))) rfl
set_option maxRecDepth 20000 in
theorem mw381 : Cond.methodLink RX3 154 yJ9_maxL ∈ WALL := ez_mem (List.mem_append_right _ (List.mem_append_right _ (List.mem_append_left _ (List.mem_of_getElem? (i := 141) rfl)))) rfl
set_option maxRecDepth 20000 in
theorem mw382 : Cond.methodLink RX3 158 yJ9_minL ∈ WALL := ez_mem (List.mem_append_right _ (List.mem_append_right _ (List.mem_append_left _ (List.mem_of_getElem? (i := 142) rfl)))) rfl
set_option maxRecDepth 20000 in
theorem mw383 : Cond.methodLink RX3 144 yX3_judgeOne ∈ WALL := ez_mem (List.mem_append_right _ (List.mem_append_right _ (List.mem_append_left _ (List.mem_of_getElem? (i := 143) rfl)))) rfl
set_option maxRecDepth 20000 in
theorem mw385 : Cond.instanceMethod yX3_judgeOne ∈ WALL := ez_mem (List.mem_append_right _ (List.mem_append_right _ (List.mem_append_left _ (List.mem_of_getElem? (i := 145) rfl)))) rfl
set_option maxRecDepth 20000 in
theorem mw386 : Cond.code yX3_judgeOne prog_1_method_26_code 4 (some .int) ∈ WALL := ez_mem (List.mem_append_right _ (List.mem_append_right _ (List.mem_append_left _ (List.mem_of_getElem? (i := 146) rfl)))) rfl
set_option maxRecDepth 20000 in
theorem mw387 : Cond.methodLink RX3 84 yX3_keepResult ∈ WALL := ez_mem (List.mem_append_right _ (List.mem_append_right _ (List.mem_append_left _ (List.mem_of_getElem? (i := 147) rfl)))) rfl
set_option maxRecDepth 20000 in
theorem mw389 : Cond.instanceMethod yX3_keepResult ∈ WALL := ez_mem (List.mem_append_right _ (List.mem_append_right _ (List.mem_append_left _ (List.mem_of_getElem? (i := 149) rfl)))) rfl
set_option maxRecDepth 20000 in
theorem mw390 : Cond.code yX3_keepResult prog_1_method_23_code 2 none ∈ WALL := ez_mem (List.mem_append_right _ (List.mem_append_right _ (List.mem_append_left _ (List.mem_of_getElem? (i := 150) rfl)))) rfl
set_option maxRecDepth 20000 in
theorem mw391 : Cond.methodLink RX3 110 yX2_latestStep ∈ WALL := ez_mem (List.mem_append_right _ (List.mem_append_right _ (List.mem_append_left _ (List.mem_of_getElem? (i := 151) rfl)))) rfl
set_option maxRecDepth 20000 in
theorem mw392 : Cond.instanceMethod yX2_latestStep ∈ WALL := ez_mem (List.mem_append_right _ (List.mem_append_right _ (List.mem_append_left _ (List.mem_of_getElem? (i := 152) rfl)))) rfl
set_option maxRecDepth 20000 in
theorem mw393 : Cond.selects RX2 yX2_latestStep yX2_latestStep ∈ WALL := ez_mem (List.mem_append_right _ (List.mem_append_right _ (List.mem_append_left _ (List.mem_of_getElem? (i := 153) rfl)))) rfl
set_option maxRecDepth 20000 in
theorem mw394 : Cond.code yX2_latestStep prog_4_method_5_code 1 (some .int) ∈ WALL := ez_mem (List.mem_append_right _ (List.mem_append_right _ (List.mem_append_left _ (List.mem_of_getElem? (i := 154) rfl)))) rfl
set_option maxRecDepth 20000 in
theorem mw427 : Cond.fieldLink RX4 45 RX4 "len" "I" ∈ WALL := ez_mem (List.mem_append_right _ (List.mem_append_right _ (List.mem_append_left _ (List.mem_of_getElem? (i := 187) rfl)))) rfl
set_option maxRecDepth 20000 in
theorem mw428 : Cond.fieldLink RX4 7 RX4 "text" "[I" ∈ WALL := ez_mem (List.mem_append_right _ (List.mem_append_right _ (List.mem_append_left _ (List.mem_of_getElem? (i := 188) rfl)))) rfl
set_option maxRecDepth 20000 in
theorem mw429 : Cond.fieldLink RX4 13 RX4 "named" "[I" ∈ WALL := ez_mem (List.mem_append_right _ (List.mem_append_right _ (List.mem_append_left _ (List.mem_of_getElem? (i := 189) rfl)))) rfl
set_option maxRecDepth 20000 in
theorem mw430 : Cond.fieldLink RX4 63 RX4 "count" "I" ∈ WALL := ez_mem (List.mem_append_right _ (List.mem_append_right _ (List.mem_append_left _ (List.mem_of_getElem? (i := 190) rfl)))) rfl
set_option maxRecDepth 20000 in
theorem mw431 : Cond.fieldLink RX4 16 RX4 "sort" "[I" ∈ WALL := ez_mem (List.mem_append_right _ (List.mem_append_right _ (List.mem_append_left _ (List.mem_of_getElem? (i := 191) rfl)))) rfl
set_option maxRecDepth 20000 in
theorem mw432 : Cond.fieldLink RX4 19 RX4 "first" "[I" ∈ WALL := ez_mem (List.mem_append_right _ (List.mem_append_right _ (List.mem_append_left _ (List.mem_of_getElem? (i := 192) rfl)))) rfl
set_option maxRecDepth 20000 in
theorem mw433 : Cond.fieldLink RX4 22 RX4 "second" "[I" ∈ WALL := ez_mem (List.mem_append_right _ (List.mem_append_right _ (List.mem_append_left _ (List.mem_of_getElem? (i := 193) rfl)))) rfl
set_option maxRecDepth 20000 in
theorem mw434 : Cond.fieldLink RX4 66 RX4 "parts" "I" ∈ WALL := ez_mem (List.mem_append_right _ (List.mem_append_right _ (List.mem_append_left _ (List.mem_of_getElem? (i := 194) rfl)))) rfl
set_option maxRecDepth 20000 in
theorem mw435 : Cond.fieldLink RX4 25 RX4 "part" "[I" ∈ WALL := ez_mem (List.mem_append_right _ (List.mem_append_right _ (List.mem_append_left _ (List.mem_of_getElem? (i := 195) rfl)))) rfl
set_option maxRecDepth 20000 in
theorem mw436 : Cond.fieldLink RX4 77 RX4 "signs" "I" ∈ WALL := ez_mem (List.mem_append_right _ (List.mem_append_right _ (List.mem_append_left _ (List.mem_of_getElem? (i := 196) rfl)))) rfl
set_option maxRecDepth 20000 in
theorem mw437 : Cond.fieldLink RX4 28 RX4 "sign" "[I" ∈ WALL := ez_mem (List.mem_append_right _ (List.mem_append_right _ (List.mem_append_left _ (List.mem_of_getElem? (i := 197) rfl)))) rfl
set_option maxRecDepth 20000 in
theorem mw438 : Cond.fieldLink RX4 31 RX4 "state" "[I" ∈ WALL := ez_mem (List.mem_append_right _ (List.mem_append_right _ (List.mem_append_left _ (List.mem_of_getElem? (i := 198) rfl)))) rfl
set_option maxRecDepth 20000 in
theorem mw439 : Cond.fieldLink RX4 34 RX4 "low" "[J" ∈ WALL := ez_mem (List.mem_append_right _ (List.mem_append_right _ (List.mem_append_left _ (List.mem_of_getElem? (i := 199) rfl)))) rfl
set_option maxRecDepth 20000 in
theorem mw440 : Cond.fieldLink RX4 38 RX4 "high" "[J" ∈ WALL := ez_mem (List.mem_append_right _ (List.mem_append_right _ (List.mem_append_left _ (List.mem_of_getElem? (i := 200) rfl)))) rfl
set_option maxRecDepth 20000 in
theorem mw441 : Cond.fieldLink RX4 41 RX4 "mark" "[Z" ∈ WALL := ez_mem (List.mem_append_right _ (List.mem_append_right _ (List.mem_append_left _ (List.mem_of_getElem? (i := 201) rfl)))) rfl
set_option maxRecDepth 20000 in
theorem mw442 : Cond.fieldLink RX4 110 RX4 "work" "I" ∈ WALL := ez_mem (List.mem_append_right _ (List.mem_append_right _ (List.mem_append_left _ (List.mem_of_getElem? (i := 202) rfl)))) rfl
set_option maxRecDepth 20000 in
theorem mw443 : Cond.fieldLink RX4 164 RX4 "step" "I" ∈ WALL := ez_mem (List.mem_append_right _ (List.mem_append_right _ (List.mem_append_left _ (List.mem_of_getElem? (i := 203) rfl)))) rfl
set_option maxRecDepth 20000 in
theorem mw444 : Cond.fieldLink RX4 113 RX4 "has" "Z" ∈ WALL := ez_mem (List.mem_append_right _ (List.mem_append_right _ (List.mem_append_left _ (List.mem_of_getElem? (i := 204) rfl)))) rfl
set_option maxRecDepth 20000 in
theorem mw445 : Cond.fieldLink RX4 167 RX4 "resultLow" "J" ∈ WALL := ez_mem (List.mem_append_right _ (List.mem_append_right _ (List.mem_append_left _ (List.mem_of_getElem? (i := 205) rfl)))) rfl
set_option maxRecDepth 20000 in
theorem mw446 : Cond.fieldLink RX4 171 RX4 "resultHigh" "J" ∈ WALL := ez_mem (List.mem_append_right _ (List.mem_append_right _ (List.mem_append_left _ (List.mem_of_getElem? (i := 206) rfl)))) rfl
set_option maxRecDepth 20000 in
theorem mw447 : Cond.lays RX4 RX4 "len" "I" ∈ WALL := ez_mem (List.mem_append_right _ (List.mem_append_right _ (List.mem_append_left _ (List.mem_of_getElem? (i := 207) rfl)))) rfl
set_option maxRecDepth 20000 in
theorem mw449 : Cond.lays RX4 RX4 "text" "[I" ∈ WALL := ez_mem (List.mem_append_right _ (List.mem_append_right _ (List.mem_append_left _ (List.mem_of_getElem? (i := 209) rfl)))) rfl
set_option maxRecDepth 20000 in
theorem mw451 : Cond.lays RX4 RX4 "named" "[I" ∈ WALL := ez_mem (List.mem_append_right _ (List.mem_append_right _ (List.mem_append_left _ (List.mem_of_getElem? (i := 211) rfl)))) rfl
set_option maxRecDepth 20000 in
theorem mw453 : Cond.lays RX4 RX4 "count" "I" ∈ WALL := ez_mem (List.mem_append_right _ (List.mem_append_right _ (List.mem_append_left _ (List.mem_of_getElem? (i := 213) rfl)))) rfl
set_option maxRecDepth 20000 in
theorem mw455 : Cond.lays RX4 RX4 "sort" "[I" ∈ WALL := ez_mem (List.mem_append_right _ (List.mem_append_right _ (List.mem_append_left _ (List.mem_of_getElem? (i := 215) rfl)))) rfl
set_option maxRecDepth 20000 in
theorem mw457 : Cond.lays RX4 RX4 "first" "[I" ∈ WALL := ez_mem (List.mem_append_right _ (List.mem_append_right _ (List.mem_append_left _ (List.mem_of_getElem? (i := 217) rfl)))) rfl
set_option maxRecDepth 20000 in
theorem mw459 : Cond.lays RX4 RX4 "second" "[I" ∈ WALL := ez_mem (List.mem_append_right _ (List.mem_append_right _ (List.mem_append_left _ (List.mem_of_getElem? (i := 219) rfl)))) rfl
set_option maxRecDepth 20000 in
theorem mw461 : Cond.lays RX4 RX4 "parts" "I" ∈ WALL := ez_mem (List.mem_append_right _ (List.mem_append_right _ (List.mem_append_left _ (List.mem_of_getElem? (i := 221) rfl)))) rfl
set_option maxRecDepth 20000 in
theorem mw463 : Cond.lays RX4 RX4 "part" "[I" ∈ WALL := ez_mem (List.mem_append_right _ (List.mem_append_right _ (List.mem_append_left _ (List.mem_of_getElem? (i := 223) rfl)))) rfl
set_option maxRecDepth 20000 in
theorem mw465 : Cond.lays RX4 RX4 "signs" "I" ∈ WALL := ez_mem (List.mem_append_right _ (List.mem_append_right _ (List.mem_append_left _ (List.mem_of_getElem? (i := 225) rfl)))) rfl
set_option maxRecDepth 20000 in
theorem mw467 : Cond.lays RX4 RX4 "sign" "[I" ∈ WALL := ez_mem (List.mem_append_right _ (List.mem_append_right _ (List.mem_append_left _ (List.mem_of_getElem? (i := 227) rfl)))) rfl
set_option maxRecDepth 20000 in
theorem mw469 : Cond.lays RX4 RX4 "state" "[I" ∈ WALL := ez_mem (List.mem_append_right _ (List.mem_append_right _ (List.mem_append_left _ (List.mem_of_getElem? (i := 229) rfl)))) rfl
set_option maxRecDepth 20000 in
theorem mw471 : Cond.lays RX4 RX4 "low" "[J" ∈ WALL := ez_mem (List.mem_append_right _ (List.mem_append_right _ (List.mem_append_left _ (List.mem_of_getElem? (i := 231) rfl)))) rfl
set_option maxRecDepth 20000 in
theorem mw473 : Cond.lays RX4 RX4 "high" "[J" ∈ WALL := ez_mem (List.mem_append_right _ (List.mem_append_right _ (List.mem_append_left _ (List.mem_of_getElem? (i := 233) rfl)))) rfl
set_option maxRecDepth 20000 in
theorem mw475 : Cond.lays RX4 RX4 "mark" "[Z" ∈ WALL := ez_mem (List.mem_append_right _ (List.mem_append_right _ (List.mem_append_left _ (List.mem_of_getElem? (i := 235) rfl)))) rfl
set_option maxRecDepth 20000 in
theorem mw477 : Cond.lays RX4 RX4 "work" "I" ∈ WALL := ez_mem (List.mem_append_right _ (List.mem_append_right _ (List.mem_append_left _ (List.mem_of_getElem? (i := 237) rfl)))) rfl
set_option maxRecDepth 20000 in
theorem mw479 : Cond.lays RX4 RX4 "step" "I" ∈ WALL := ez_mem (List.mem_append_right _ (List.mem_append_right _ (List.mem_append_left _ (List.mem_of_getElem? (i := 239) rfl)))) rfl
set_option maxRecDepth 20000 in
theorem mw481 : Cond.lays RX4 RX4 "has" "Z" ∈ WALL := ez_mem (List.mem_append_right _ (List.mem_append_right _ (List.mem_append_right _ (List.mem_of_getElem? (i := 1) rfl)))) rfl
set_option maxRecDepth 20000 in
theorem mw483 : Cond.lays RX4 RX4 "resultLow" "J" ∈ WALL := ez_mem (List.mem_append_right _ (List.mem_append_right _ (List.mem_append_right _ (List.mem_of_getElem? (i := 3) rfl)))) rfl
set_option maxRecDepth 20000 in
theorem mw485 : Cond.lays RX4 RX4 "resultHigh" "J" ∈ WALL := ez_mem (List.mem_append_right _ (List.mem_append_right _ (List.mem_append_right _ (List.mem_of_getElem? (i := 5) rfl)))) rfl
set_option maxRecDepth 20000 in
theorem mw492 : Cond.methodLink RX4 49 yX4_isDigit ∈ WALL := ez_mem (List.mem_append_right _ (List.mem_append_right _ (List.mem_append_right _ (List.mem_of_getElem? (i := 12) rfl)))) rfl
set_option maxRecDepth 20000 in
theorem mw493 : Cond.static yX4_isDigit ∈ WALL := ez_mem (List.mem_append_right _ (List.mem_append_right _ (List.mem_append_right _ (List.mem_of_getElem? (i := 13) rfl)))) rfl
set_option maxRecDepth 20000 in
theorem mw494 : Cond.code yX4_isDigit prog_6_method_2_code 1 (some .boolean) ∈ WALL := ez_mem (List.mem_append_right _ (List.mem_append_right _ (List.mem_append_right _ (List.mem_of_getElem? (i := 14) rfl)))) rfl
set_option maxRecDepth 20000 in
theorem mw495 : Cond.methodLink RX4 53 yX4_isName ∈ WALL := ez_mem (List.mem_append_right _ (List.mem_append_right _ (List.mem_append_right _ (List.mem_of_getElem? (i := 15) rfl)))) rfl
set_option maxRecDepth 20000 in
theorem mw496 : Cond.static yX4_isName ∈ WALL := ez_mem (List.mem_append_right _ (List.mem_append_right _ (List.mem_append_right _ (List.mem_of_getElem? (i := 16) rfl)))) rfl
set_option maxRecDepth 20000 in
theorem mw497 : Cond.code yX4_isName prog_6_method_3_code 1 (some .boolean) ∈ WALL := ez_mem (List.mem_append_right _ (List.mem_append_right _ (List.mem_append_right _ (List.mem_of_getElem? (i := 17) rfl)))) rfl
set_option maxRecDepth 20000 in
theorem mw498 : Cond.methodLink RX4 56 yX4_isSign ∈ WALL := ez_mem (List.mem_append_right _ (List.mem_append_right _ (List.mem_append_right _ (List.mem_of_getElem? (i := 18) rfl)))) rfl
set_option maxRecDepth 20000 in
theorem mw499 : Cond.static yX4_isSign ∈ WALL := ez_mem (List.mem_append_right _ (List.mem_append_right _ (List.mem_append_right _ (List.mem_of_getElem? (i := 19) rfl)))) rfl
set_option maxRecDepth 20000 in
theorem mw500 : Cond.code yX4_isSign prog_6_method_4_code 1 (some .boolean) ∈ WALL := ez_mem (List.mem_append_right _ (List.mem_append_right _ (List.mem_append_right _ (List.mem_of_getElem? (i := 20) rfl)))) rfl
set_option maxRecDepth 20000 in
theorem mw513 : Cond.methodLink RX4 100 yX4_inGrammar ∈ WALL := ez_mem (List.mem_append_right _ (List.mem_append_right _ (List.mem_append_right _ (List.mem_of_getElem? (i := 33) rfl)))) rfl
set_option maxRecDepth 20000 in
theorem mw515 : Cond.instanceMethod yX4_inGrammar ∈ WALL := ez_mem (List.mem_append_right _ (List.mem_append_right _ (List.mem_append_right _ (List.mem_of_getElem? (i := 35) rfl)))) rfl
set_option maxRecDepth 20000 in
theorem mw516 : Cond.code yX4_inGrammar prog_6_method_9_code 4 (some .boolean) ∈ WALL := ez_mem (List.mem_append_right _ (List.mem_append_right _ (List.mem_append_right _ (List.mem_of_getElem? (i := 36) rfl)))) rfl
set_option maxRecDepth 20000 in
theorem mw517 : Cond.methodLink RX4 59 yX4_follow ∈ WALL := ez_mem (List.mem_append_right _ (List.mem_append_right _ (List.mem_append_right _ (List.mem_of_getElem? (i := 37) rfl)))) rfl
set_option maxRecDepth 20000 in
theorem mw518 : Cond.static yX4_follow ∈ WALL := ez_mem (List.mem_append_right _ (List.mem_append_right _ (List.mem_append_right _ (List.mem_of_getElem? (i := 38) rfl)))) rfl
set_option maxRecDepth 20000 in
theorem mw519 : Cond.code yX4_follow prog_6_method_8_code 4 (some .int) ∈ WALL := ez_mem (List.mem_append_right _ (List.mem_append_right _ (List.mem_append_right _ (List.mem_of_getElem? (i := 39) rfl)))) rfl
set_option maxRecDepth 20000 in
theorem mw520 : Cond.methodLink RX4 104 yX4_allKnown ∈ WALL := ez_mem (List.mem_append_right _ (List.mem_append_right _ (List.mem_append_right _ (List.mem_of_getElem? (i := 40) rfl)))) rfl
set_option maxRecDepth 20000 in
theorem mw522 : Cond.instanceMethod yX4_allKnown ∈ WALL := ez_mem (List.mem_append_right _ (List.mem_append_right _ (List.mem_append_right _ (List.mem_of_getElem? (i := 42) rfl)))) rfl
set_option maxRecDepth 20000 in
theorem mw523 : Cond.code yX4_allKnown prog_6_method_10_code 3 (some .boolean) ∈ WALL := ez_mem (List.mem_append_right _ (List.mem_append_right _ (List.mem_append_right _ (List.mem_of_getElem? (i := 43) rfl)))) rfl
set_option maxRecDepth 20000 in
theorem mw524 : Cond.methodLink RX4 107 yX4_build ∈ WALL := ez_mem (List.mem_append_right _ (List.mem_append_right _ (List.mem_append_right _ (List.mem_of_getElem? (i := 44) rfl)))) rfl
set_option maxRecDepth 20000 in
theorem mw526 : Cond.instanceMethod yX4_build ∈ WALL := ez_mem (List.mem_append_right _ (List.mem_append_right _ (List.mem_append_right _ (List.mem_of_getElem? (i := 46) rfl)))) rfl
set_option maxRecDepth 20000 in
theorem mw527 : Cond.code yX4_build prog_6_method_19_code 5 none ∈ WALL := ez_mem (List.mem_append_right _ (List.mem_append_right _ (List.mem_append_right _ (List.mem_of_getElem? (i := 47) rfl)))) rfl
set_option maxRecDepth 20000 in
theorem mw528 : Cond.methodLink RX4 94 yX4_number ∈ WALL := ez_mem (List.mem_append_right _ (List.mem_append_right _ (List.mem_append_right _ (List.mem_of_getElem? (i := 48) rfl)))) rfl
set_option maxRecDepth 20000 in
theorem mw530 : Cond.instanceMethod yX4_number ∈ WALL := ez_mem (List.mem_append_right _ (List.mem_append_right _ (List.mem_append_right _ (List.mem_of_getElem? (i := 50) rfl)))) rfl
set_option maxRecDepth 20000 in
theorem mw531 : Cond.code yX4_number prog_6_method_18_code 4 (some .int) ∈ WALL := ez_mem (List.mem_append_right _ (List.mem_append_right _ (List.mem_append_right _ (List.mem_of_getElem? (i := 51) rfl)))) rfl
set_option maxRecDepth 20000 in
theorem mw532 : Cond.methodLink RX4 73 yX4_make ∈ WALL := ez_mem (List.mem_append_right _ (List.mem_append_right _ (List.mem_append_right _ (List.mem_of_getElem? (i := 52) rfl)))) rfl
set_option maxRecDepth 20000 in
theorem mw534 : Cond.instanceMethod yX4_make ∈ WALL := ez_mem (List.mem_append_right _ (List.mem_append_right _ (List.mem_append_right _ (List.mem_of_getElem? (i := 54) rfl)))) rfl
set_option maxRecDepth 20000 in
theorem mw535 : Cond.code yX4_make prog_6_method_11_code 4 none ∈ WALL := ez_mem (List.mem_append_right _ (List.mem_append_right _ (List.mem_append_right _ (List.mem_of_getElem? (i := 55) rfl)))) rfl
set_option maxRecDepth 20000 in
theorem mw536 : Cond.methodLink RX4 91 yX4_finish ∈ WALL := ez_mem (List.mem_append_right _ (List.mem_append_right _ (List.mem_append_right _ (List.mem_of_getElem? (i := 56) rfl)))) rfl
set_option maxRecDepth 20000 in
theorem mw538 : Cond.instanceMethod yX4_finish ∈ WALL := ez_mem (List.mem_append_right _ (List.mem_append_right _ (List.mem_append_right _ (List.mem_of_getElem? (i := 58) rfl)))) rfl
set_option maxRecDepth 20000 in
theorem mw539 : Cond.code yX4_finish prog_6_method_17_code 3 (some .int) ∈ WALL := ez_mem (List.mem_append_right _ (List.mem_append_right _ (List.mem_append_right _ (List.mem_of_getElem? (i := 59) rfl)))) rfl
set_option maxRecDepth 20000 in
theorem mw540 : Cond.methodLink RX4 84 yX4_power ∈ WALL := ez_mem (List.mem_append_right _ (List.mem_append_right _ (List.mem_append_right _ (List.mem_of_getElem? (i := 60) rfl)))) rfl
set_option maxRecDepth 20000 in
theorem mw542 : Cond.instanceMethod yX4_power ∈ WALL := ez_mem (List.mem_append_right _ (List.mem_append_right _ (List.mem_append_right _ (List.mem_of_getElem? (i := 62) rfl)))) rfl
set_option maxRecDepth 20000 in
theorem mw543 : Cond.code yX4_power prog_6_method_13_code 4 none ∈ WALL := ez_mem (List.mem_append_right _ (List.mem_append_right _ (List.mem_append_right _ (List.mem_of_getElem? (i := 63) rfl)))) rfl
set_option maxRecDepth 20000 in
theorem mw544 : Cond.methodLink RX4 69 yX4_take ∈ WALL := ez_mem (List.mem_append_right _ (List.mem_append_right _ (List.mem_append_right _ (List.mem_of_getElem? (i := 64) rfl)))) rfl
set_option maxRecDepth 20000 in
theorem mw546 : Cond.instanceMethod yX4_take ∈ WALL := ez_mem (List.mem_append_right _ (List.mem_append_right _ (List.mem_append_right _ (List.mem_of_getElem? (i := 66) rfl)))) rfl
set_option maxRecDepth 20000 in
theorem mw547 : Cond.code yX4_take prog_6_method_12_code 1 (some .int) ∈ WALL := ez_mem (List.mem_append_right _ (List.mem_append_right _ (List.mem_append_right _ (List.mem_of_getElem? (i := 67) rfl)))) rfl
set_option maxRecDepth 20000 in
theorem mw548 : Cond.methodLink RX4 88 yX4_settle ∈ WALL := ez_mem (List.mem_append_right _ (List.mem_append_right _ (List.mem_append_right _ (List.mem_of_getElem? (i := 68) rfl)))) rfl
set_option maxRecDepth 20000 in
theorem mw550 : Cond.instanceMethod yX4_settle ∈ WALL := ez_mem (List.mem_append_right _ (List.mem_append_right _ (List.mem_append_right _ (List.mem_of_getElem? (i := 70) rfl)))) rfl
set_option maxRecDepth 20000 in
theorem mw551 : Cond.code yX4_settle prog_6_method_15_code 5 none ∈ WALL := ez_mem (List.mem_append_right _ (List.mem_append_right _ (List.mem_append_right _ (List.mem_of_getElem? (i := 71) rfl)))) rfl
set_option maxRecDepth 20000 in
theorem mw552 : Cond.methodLink RX4 80 yX4_hold ∈ WALL := ez_mem (List.mem_append_right _ (List.mem_append_right _ (List.mem_append_right _ (List.mem_of_getElem? (i := 72) rfl)))) rfl
set_option maxRecDepth 20000 in
theorem mw553 : Cond.static yX4_hold ∈ WALL := ez_mem (List.mem_append_right _ (List.mem_append_right _ (List.mem_append_right _ (List.mem_of_getElem? (i := 73) rfl)))) rfl
set_option maxRecDepth 20000 in
theorem mw554 : Cond.code yX4_hold prog_6_method_14_code 1 (some .int) ∈ WALL := ez_mem (List.mem_append_right _ (List.mem_append_right _ (List.mem_append_right _ (List.mem_of_getElem? (i := 74) rfl)))) rfl
set_option maxRecDepth 20000 in
theorem mw555 : Cond.methodLink RX4 97 yX4_hang ∈ WALL := ez_mem (List.mem_append_right _ (List.mem_append_right _ (List.mem_append_right _ (List.mem_of_getElem? (i := 75) rfl)))) rfl
set_option maxRecDepth 20000 in
theorem mw557 : Cond.instanceMethod yX4_hang ∈ WALL := ez_mem (List.mem_append_right _ (List.mem_append_right _ (List.mem_append_right _ (List.mem_of_getElem? (i := 77) rfl)))) rfl
set_option maxRecDepth 20000 in
theorem mw558 : Cond.code yX4_hang prog_6_method_16_code 2 none ∈ WALL := ez_mem (List.mem_append_right _ (List.mem_append_right _ (List.mem_append_right _ (List.mem_of_getElem? (i := 78) rfl)))) rfl
set_option maxRecDepth 20000 in
theorem mw567 : Cond.methodLink RX4 150 yX4_isGiven ∈ WALL := ez_mem (List.mem_append_right _ (List.mem_append_right _ (List.mem_append_right _ (List.mem_of_getElem? (i := 87) rfl)))) rfl
set_option maxRecDepth 20000 in
theorem mw569 : Cond.instanceMethod yX4_isGiven ∈ WALL := ez_mem (List.mem_append_right _ (List.mem_append_right _ (List.mem_append_right _ (List.mem_of_getElem? (i := 89) rfl)))) rfl
set_option maxRecDepth 20000 in
theorem mw570 : Cond.code yX4_isGiven prog_6_method_22_code 2 (some .boolean) ∈ WALL := ez_mem (List.mem_append_right _ (List.mem_append_right _ (List.mem_append_right _ (List.mem_of_getElem? (i := 90) rfl)))) rfl
set_option maxRecDepth 20000 in
theorem mw571 : Cond.methodLink RX4 153 yX4_spread ∈ WALL := ez_mem (List.mem_append_right _ (List.mem_append_right _ (List.mem_append_right _ (List.mem_of_getElem? (i := 91) rfl)))) rfl
set_option maxRecDepth 20000 in
theorem mw573 : Cond.instanceMethod yX4_spread ∈ WALL := ez_mem (List.mem_append_right _ (List.mem_append_right _ (List.mem_append_right _ (List.mem_of_getElem? (i := 93) rfl)))) rfl
set_option maxRecDepth 20000 in
theorem mw574 : Cond.code yX4_spread prog_6_method_23_code 5 (some .int) ∈ WALL := ez_mem (List.mem_append_right _ (List.mem_append_right _ (List.mem_append_right _ (List.mem_of_getElem? (i := 94) rfl)))) rfl
set_option maxRecDepth 20000 in
theorem mw579 : Cond.methodLink RX4 157 yX4_inRange ∈ WALL := ez_mem (List.mem_append_right _ (List.mem_append_right _ (List.mem_append_right _ (List.mem_of_getElem? (i := 99) rfl)))) rfl
set_option maxRecDepth 20000 in
theorem mw580 : Cond.static yX4_inRange ∈ WALL := ez_mem (List.mem_append_right _ (List.mem_append_right _ (List.mem_append_right _ (List.mem_of_getElem? (i := 100) rfl)))) rfl
set_option maxRecDepth 20000 in
theorem mw581 : Cond.code yX4_inRange prog_6_method_32_code 2 (some .boolean) ∈ WALL := ez_mem (List.mem_append_right _ (List.mem_append_right _ (List.mem_append_right _ (List.mem_of_getElem? (i := 101) rfl)))) rfl
set_option maxRecDepth 20000 in
theorem mw582 : Cond.methodLink RX4 161 yX4_allAt ∈ WALL := ez_mem (List.mem_append_right _ (List.mem_append_right _ (List.mem_append_right _ (List.mem_of_getElem? (i := 102) rfl)))) rfl
set_option maxRecDepth 20000 in
theorem mw584 : Cond.instanceMethod yX4_allAt ∈ WALL := ez_mem (List.mem_append_right _ (List.mem_append_right _ (List.mem_append_right _ (List.mem_of_getElem? (i := 104) rfl)))) rfl
set_option maxRecDepth 20000 in
theorem mw585 : Cond.code yX4_allAt prog_6_method_30_code 3 none ∈ WALL := ez_mem (List.mem_append_right _ (List.mem_append_right _ (List.mem_append_right _ (List.mem_of_getElem? (i := 105) rfl)))) rfl
set_option maxRecDepth 20000 in
theorem mw586 : Cond.methodLink RX4 146 yX4_workOut ∈ WALL := ez_mem (List.mem_append_right _ (List.mem_append_right _ (List.mem_append_right _ (List.mem_of_getElem? (i := 106) rfl)))) rfl
set_option maxRecDepth 20000 in
theorem mw588 : Cond.instanceMethod yX4_workOut ∈ WALL := ez_mem (List.mem_append_right _ (List.mem_append_right _ (List.mem_append_right _ (List.mem_of_getElem? (i := 108) rfl)))) rfl
set_option maxRecDepth 20000 in
theorem mw589 : Cond.code yX4_workOut prog_6_method_29_code 6 none ∈ WALL := ez_mem (List.mem_append_right _ (List.mem_append_right _ (List.mem_append_right _ (List.mem_of_getElem? (i := 109) rfl)))) rfl
set_option maxRecDepth 20000 in
theorem mw590 : Cond.methodLink RX4 138 yX4_ends ∈ WALL := ez_mem (List.mem_append_right _ (List.mem_append_right _ (List.mem_append_right _ (List.mem_of_getElem? (i := 110) rfl)))) rfl
set_option maxRecDepth 20000 in
theorem mw592 : Cond.instanceMethod yX4_ends ∈ WALL := ez_mem (List.mem_append_right _ (List.mem_append_right _ (List.mem_append_right _ (List.mem_of_getElem? (i := 112) rfl)))) rfl
set_option maxRecDepth 20000 in
theorem mw593 : Cond.code yX4_ends prog_6_method_28_code 14 none ∈ WALL := ez_mem (List.mem_append_right _ (List.mem_append_right _ (List.mem_append_right _ (List.mem_of_getElem? (i := 113) rfl)))) rfl
set_option maxRecDepth 20000 in
theorem mw594 : Cond.constantLong RX4 126 4611686018427387904 ∈ WALL := ez_mem (List.mem_append_right _ (List.mem_append_right _ (List.mem_append_right _ (List.mem_of_getElem? (i := 114) rfl)))) rfl
set_option maxRecDepth 20000 in
theorem mw595 : Cond.constantLong RX4 128 (-4611686018427387904) ∈ WALL := ez_mem (List.mem_append_right _ (List.mem_append_right _ (List.mem_append_right _ (List.mem_of_getElem? (i := 115) rfl)))) rfl
set_option maxRecDepth 20000 in
theorem mw596 : Cond.methodLink RX4 130 yX4_include ∈ WALL := ez_mem (List.mem_append_right _ (List.mem_append_right _ (List.mem_append_right _ (List.mem_of_getElem? (i := 116) rfl)))) rfl
set_option maxRecDepth 20000 in
theorem mw598 : Cond.instanceMethod yX4_include ∈ WALL := ez_mem (List.mem_append_right _ (List.mem_append_right _ (List.mem_append_right _ (List.mem_of_getElem? (i := 118) rfl)))) rfl
set_option maxRecDepth 20000 in
theorem mw599 : Cond.code yX4_include prog_6_method_27_code 10 none ∈ WALL := ez_mem (List.mem_append_right _ (List.mem_append_right _ (List.mem_append_right _ (List.mem_of_getElem? (i := 119) rfl)))) rfl
set_option maxRecDepth 20000 in
theorem mw600 : Cond.methodLink RX4 117 yX4_floorOf ∈ WALL := ez_mem (List.mem_append_right _ (List.mem_append_right _ (List.mem_append_right _ (List.mem_of_getElem? (i := 120) rfl)))) rfl
set_option maxRecDepth 20000 in
theorem mw601 : Cond.static yX4_floorOf ∈ WALL := ez_mem (List.mem_append_right _ (List.mem_append_right _ (List.mem_append_right _ (List.mem_of_getElem? (i := 121) rfl)))) rfl
set_option maxRecDepth 20000 in
theorem mw602 : Cond.code yX4_floorOf prog_6_method_24_code 7 (some .long) ∈ WALL := ez_mem (List.mem_append_right _ (List.mem_append_right _ (List.mem_append_right _ (List.mem_of_getElem? (i := 122) rfl)))) rfl
set_option maxRecDepth 20000 in
theorem mw603 : Cond.methodLink RX4 123 yX4_ceilOf ∈ WALL := ez_mem (List.mem_append_right _ (List.mem_append_right _ (List.mem_append_right _ (List.mem_of_getElem? (i := 123) rfl)))) rfl
set_option maxRecDepth 20000 in
theorem mw604 : Cond.static yX4_ceilOf ∈ WALL := ez_mem (List.mem_append_right _ (List.mem_append_right _ (List.mem_append_right _ (List.mem_of_getElem? (i := 124) rfl)))) rfl
set_option maxRecDepth 20000 in
theorem mw605 : Cond.code yX4_ceilOf prog_6_method_25_code 4 (some .long) ∈ WALL := ez_mem (List.mem_append_right _ (List.mem_append_right _ (List.mem_append_right _ (List.mem_of_getElem? (i := 125) rfl)))) rfl
set_option maxRecDepth 20000 in
theorem mw606 : Cond.methodLink RX4 134 yX4_rootOf ∈ WALL := ez_mem (List.mem_append_right _ (List.mem_append_right _ (List.mem_append_right _ (List.mem_of_getElem? (i := 126) rfl)))) rfl
set_option maxRecDepth 20000 in
theorem mw607 : Cond.static yX4_rootOf ∈ WALL := ez_mem (List.mem_append_right _ (List.mem_append_right _ (List.mem_append_right _ (List.mem_of_getElem? (i := 127) rfl)))) rfl
set_option maxRecDepth 20000 in
theorem mw608 : Cond.code yX4_rootOf prog_6_method_26_code 6 (some .long) ∈ WALL := ez_mem (List.mem_append_right _ (List.mem_append_right _ (List.mem_append_right _ (List.mem_of_getElem? (i := 128) rfl)))) rfl
set_option maxRecDepth 20000 in
theorem mw609 : Cond.constantLong RX4 121 1073741824 ∈ WALL := ez_mem (List.mem_append_right _ (List.mem_append_right _ (List.mem_append_right _ (List.mem_of_getElem? (i := 129) rfl)))) rfl
set_option maxRecDepth 20000 in
theorem mw610 : Cond.constantLong RX4 142 (-4096) ∈ WALL := ez_mem (List.mem_append_right _ (List.mem_append_right _ (List.mem_append_right _ (List.mem_of_getElem? (i := 130) rfl)))) rfl
set_option maxRecDepth 20000 in
theorem mw611 : Cond.constantLong RX4 144 4096 ∈ WALL := ez_mem (List.mem_append_right _ (List.mem_append_right _ (List.mem_append_right _ (List.mem_of_getElem? (i := 131) rfl)))) rfl
set_option maxRecDepth 20000 in
theorem mw616 : Cond.methodLink RX4 174 yX4_relation ∈ WALL := ez_mem (List.mem_append_right _ (List.mem_append_right _ (List.mem_append_right _ (List.mem_of_getElem? (i := 136) rfl)))) rfl
set_option maxRecDepth 20000 in
theorem mw618 : Cond.instanceMethod yX4_relation ∈ WALL := ez_mem (List.mem_append_right _ (List.mem_append_right _ (List.mem_append_right _ (List.mem_of_getElem? (i := 138) rfl)))) rfl
set_option maxRecDepth 20000 in
theorem mw619 : Cond.code yX4_relation prog_6_method_34_code 9 (some .int) ∈ WALL := ez_mem (List.mem_append_right _ (List.mem_append_right _ (List.mem_append_right _ (List.mem_of_getElem? (i := 139) rfl)))) rfl
set_option maxRecDepth 20000 in
theorem mw640 : Cond.constantLong RX4 178 10 ∈ WALL := ez_mem (List.mem_append_right _ (List.mem_append_right _ (List.mem_append_right _ (List.mem_of_getElem? (i := 160) rfl)))) rfl
set_option maxRecDepth 20000 in
theorem mw641 : Cond.constantLong RX4 180 2 ∈ WALL := ez_mem (List.mem_append_right _ (List.mem_append_right _ (List.mem_append_right _ (List.mem_of_getElem? (i := 161) rfl)))) rfl
theorem inX0 : ∀ w ∈ u_ws RX0 TX0 5, w ∈ WALL := by
  show ∀ w ∈ [Cond.laysFinal RX0 RX0 "sorts" "[I", Cond.laysFinal RX0 RX0 "values" "[I", Cond.laysFinal RX0 RX0 "firsts" "[I", Cond.laysFinal RX0 RX0 "seconds" "[I", Cond.lays RX0 RX0 "made" "I"], w ∈ WALL
  exact List.forall_mem_cons.mpr ⟨mw26, List.forall_mem_cons.mpr ⟨mw28, List.forall_mem_cons.mpr ⟨mw30, List.forall_mem_cons.mpr ⟨mw32, List.forall_mem_cons.mpr ⟨mw34, fun _ h => absurd h List.not_mem_nil⟩⟩⟩⟩⟩
theorem inX1 : ∀ w ∈ u_ws RX1 TX1 6, w ∈ WALL := by
  show ∀ w ∈ [Cond.laysFinal RX1 RX1 "text" "[C", Cond.laysFinal RX1 RX1 "size" "I", Cond.laysFinal RX1 RX1 "named" "[I", Cond.laysFinal RX1 RX1 "store" "LEnclosureCalculator$Parts;", Cond.lays RX1 RX1 "position" "I", Cond.lays RX1 RX1 "unknownLetter" "Z"], w ∈ WALL
  exact List.forall_mem_cons.mpr ⟨mw147, List.forall_mem_cons.mpr ⟨mw149, List.forall_mem_cons.mpr ⟨mw151, List.forall_mem_cons.mpr ⟨mw153, List.forall_mem_cons.mpr ⟨mw155, List.forall_mem_cons.mpr ⟨mw157, fun _ h => absurd h List.not_mem_nil⟩⟩⟩⟩⟩⟩
theorem inX2 : ∀ w ∈ u_ws RX2 TX2 5, w ∈ WALL := by
  show ∀ w ∈ [Cond.laysFinal RX2 RX2 "chosen" "[Z", Cond.laysFinal RX2 RX2 "states" "[I", Cond.laysFinal RX2 RX2 "lows" "[J", Cond.laysFinal RX2 RX2 "highs" "[J", Cond.lays RX2 RX2 "step" "I"], w ∈ WALL
  exact List.forall_mem_cons.mpr ⟨mw50, List.forall_mem_cons.mpr ⟨mw52, List.forall_mem_cons.mpr ⟨mw54, List.forall_mem_cons.mpr ⟨mw56, List.forall_mem_cons.mpr ⟨mw58, fun _ h => absurd h List.not_mem_nil⟩⟩⟩⟩⟩
theorem inX3 : ∀ w ∈ u_ws RX3 TX3 9, w ∈ WALL := by
  show ∀ w ∈ [Cond.laysFinal RX3 RX3 "text" "[C", Cond.lays RX3 RX3 "textSize" "I", Cond.laysFinal RX3 RX3 "store" "LEnclosureCalculator$Parts;", Cond.laysFinal RX3 RX3 "named" "[I", Cond.laysFinal RX3 RX3 "spans" "LEnclosureCalculator$Spans;", Cond.lays RX3 RX3 "latestWork" "I", Cond.lays RX3 RX3 "resultStep" "I", Cond.lays RX3 RX3 "resultLow" "J", Cond.lays RX3 RX3 "resultHigh" "J"], w ∈ WALL
  exact List.forall_mem_cons.mpr ⟨mw84, List.forall_mem_cons.mpr ⟨mw86, List.forall_mem_cons.mpr ⟨mw88, List.forall_mem_cons.mpr ⟨mw90, List.forall_mem_cons.mpr ⟨mw92, List.forall_mem_cons.mpr ⟨mw94, List.forall_mem_cons.mpr ⟨mw96, List.forall_mem_cons.mpr ⟨mw98, List.forall_mem_cons.mpr ⟨mw100, fun _ h => absurd h List.not_mem_nil⟩⟩⟩⟩⟩⟩⟩⟩⟩
theorem inX4 : ∀ w ∈ u_ws RX4 TX4 20, w ∈ WALL := by
  show ∀ w ∈ [Cond.lays RX4 RX4 "len" "I", Cond.lays RX4 RX4 "text" "[I", Cond.lays RX4 RX4 "named" "[I", Cond.lays RX4 RX4 "count" "I", Cond.lays RX4 RX4 "sort" "[I", Cond.lays RX4 RX4 "first" "[I", Cond.lays RX4 RX4 "second" "[I", Cond.lays RX4 RX4 "parts" "I", Cond.lays RX4 RX4 "part" "[I", Cond.lays RX4 RX4 "signs" "I", Cond.lays RX4 RX4 "sign" "[I", Cond.lays RX4 RX4 "state" "[I", Cond.lays RX4 RX4 "low" "[J", Cond.lays RX4 RX4 "high" "[J", Cond.lays RX4 RX4 "mark" "[Z", Cond.lays RX4 RX4 "work" "I", Cond.lays RX4 RX4 "step" "I", Cond.lays RX4 RX4 "has" "Z", Cond.lays RX4 RX4 "resultLow" "J", Cond.lays RX4 RX4 "resultHigh" "J"], w ∈ WALL
  exact List.forall_mem_cons.mpr ⟨mw447, List.forall_mem_cons.mpr ⟨mw449, List.forall_mem_cons.mpr ⟨mw451, List.forall_mem_cons.mpr ⟨mw453, List.forall_mem_cons.mpr ⟨mw455, List.forall_mem_cons.mpr ⟨mw457, List.forall_mem_cons.mpr ⟨mw459, List.forall_mem_cons.mpr ⟨mw461, List.forall_mem_cons.mpr ⟨mw463, List.forall_mem_cons.mpr ⟨mw465, List.forall_mem_cons.mpr ⟨mw467, List.forall_mem_cons.mpr ⟨mw469, List.forall_mem_cons.mpr ⟨mw471, List.forall_mem_cons.mpr ⟨mw473, List.forall_mem_cons.mpr ⟨mw475, List.forall_mem_cons.mpr ⟨mw477, List.forall_mem_cons.mpr ⟨mw479, List.forall_mem_cons.mpr ⟨mw481, List.forall_mem_cons.mpr ⟨mw483, List.forall_mem_cons.mpr ⟨mw485, fun _ h => absurd h List.not_mem_nil⟩⟩⟩⟩⟩⟩⟩⟩⟩⟩⟩⟩⟩⟩⟩⟩⟩⟩⟩⟩
