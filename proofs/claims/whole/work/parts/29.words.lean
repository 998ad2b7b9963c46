set_option maxRecDepth 20000 in
theorem mp12 : Cond.selects RX3 yX3_faultOf yX3_faultOf ∈ WALL := ez_mem (List.mem_append_left _ (List.mem_of_getElem? (i := 12) rfl)) rfl
set_option maxRecDepth 20000 in
theorem mw7 : Cond.classLink RL 7 RX3 ∈ WALL := ez_mem (List.mem_append_right _ (List.mem_append_left _ (List.mem_of_getElem? (i := 7) rfl))) rfl
set_option maxRecDepth 20000 in
theorem mw8 : Cond.instantiable RX3 9 ∈ WALL := ez_mem (List.mem_append_right _ (List.mem_append_left _ (List.mem_of_getElem? (i := 8) rfl))) rfl
set_option maxRecDepth 20000 in
theorem mw9 : Cond.methodLink RL 9 yX3_init ∈ WALL := ez_mem (List.mem_append_right _ (List.mem_append_left _ (List.mem_of_getElem? (i := 9) rfl))) rfl
set_option maxRecDepth 20000 in
theorem mw10 : Cond.instanceMethod yX3_init ∈ WALL := ez_mem (List.mem_append_right _ (List.mem_append_left _ (List.mem_of_getElem? (i := 10) rfl))) rfl
set_option maxRecDepth 20000 in
theorem mw11 : Cond.code yX3_init prog_1_method_1_code 1 none ∈ WALL := ez_mem (List.mem_append_right _ (List.mem_append_left _ (List.mem_of_getElem? (i := 11) rfl))) rfl
set_option maxRecDepth 20000 in
theorem mw12 : Cond.methodLink RX3 1 objectInit ∈ WALL := ez_mem (List.mem_append_right _ (List.mem_append_left _ (List.mem_of_getElem? (i := 12) rfl))) rfl
set_option maxRecDepth 20000 in
theorem mw13 : Cond.instanceMethod objectInit ∈ WALL := ez_mem (List.mem_append_right _ (List.mem_append_left _ (List.mem_of_getElem? (i := 13) rfl))) rfl
set_option maxRecDepth 20000 in
theorem mw14 : Cond.code objectInit object_method_1_code 1 none ∈ WALL := ez_mem (List.mem_append_right _ (List.mem_append_left _ (List.mem_of_getElem? (i := 14) rfl))) rfl
set_option maxRecDepth 20000 in
theorem mw15 : Cond.classLink RX3 13 RX0 ∈ WALL := ez_mem (List.mem_append_right _ (List.mem_append_left _ (List.mem_of_getElem? (i := 15) rfl))) rfl
set_option maxRecDepth 20000 in
theorem mw16 : Cond.instantiable RX0 5 ∈ WALL := ez_mem (List.mem_append_right _ (List.mem_append_left _ (List.mem_of_getElem? (i := 16) rfl))) rfl
set_option maxRecDepth 20000 in
theorem mw17 : Cond.methodLinkNest RX3 15 yX0_init RX3 ∈ lw_tbl := List.mem_append_right _ (List.mem_append_left _ (List.mem_of_getElem? (i := 17) rfl))
set_option maxRecDepth 20000 in
theorem mw18 : Cond.instanceMethod yX0_init ∈ WALL := ez_mem (List.mem_append_right _ (List.mem_append_left _ (List.mem_of_getElem? (i := 18) rfl))) rfl
set_option maxRecDepth 20000 in
theorem mw19 : Cond.code yX0_init prog_2_method_1_code 1 none ∈ WALL := ez_mem (List.mem_append_right _ (List.mem_append_left _ (List.mem_of_getElem? (i := 19) rfl))) rfl
set_option maxRecDepth 20000 in
theorem mw20 : Cond.methodLink RX0 3 objectInit ∈ WALL := ez_mem (List.mem_append_right _ (List.mem_append_left _ (List.mem_of_getElem? (i := 20) rfl))) rfl
set_option maxRecDepth 20000 in
theorem mw37 : Cond.arrayClass .char ∈ WALL := ez_mem (List.mem_append_right _ (List.mem_append_left _ (List.mem_of_getElem? (i := 37) rfl))) rfl
set_option maxRecDepth 20000 in
theorem mw38 : Cond.arrayClass .int ∈ WALL := ez_mem (List.mem_append_right _ (List.mem_append_left _ (List.mem_of_getElem? (i := 38) rfl))) rfl
set_option maxRecDepth 20000 in
theorem mw39 : Cond.classLink RX3 24 RX2 ∈ WALL := ez_mem (List.mem_append_right _ (List.mem_append_left _ (List.mem_of_getElem? (i := 39) rfl))) rfl
set_option maxRecDepth 20000 in
theorem mw40 : Cond.instantiable RX2 5 ∈ WALL := ez_mem (List.mem_append_right _ (List.mem_append_left _ (List.mem_of_getElem? (i := 40) rfl))) rfl
set_option maxRecDepth 20000 in
theorem mw41 : Cond.methodLinkNest RX3 26 yX2_init RX3 ∈ lw_tbl := List.mem_append_right _ (List.mem_append_left _ (List.mem_of_getElem? (i := 41) rfl))
set_option maxRecDepth 20000 in
theorem mw42 : Cond.instanceMethod yX2_init ∈ WALL := ez_mem (List.mem_append_right _ (List.mem_append_left _ (List.mem_of_getElem? (i := 42) rfl))) rfl
set_option maxRecDepth 20000 in
theorem mw43 : Cond.code yX2_init prog_4_method_1_code 1 none ∈ WALL := ez_mem (List.mem_append_right _ (List.mem_append_left _ (List.mem_of_getElem? (i := 43) rfl))) rfl
set_option maxRecDepth 20000 in
theorem mw44 : Cond.methodLink RX2 1 objectInit ∈ WALL := ez_mem (List.mem_append_right _ (List.mem_append_left _ (List.mem_of_getElem? (i := 44) rfl))) rfl
set_option maxRecDepth 20000 in
theorem mw61 : Cond.arrayClass .boolean ∈ WALL := ez_mem (List.mem_append_right _ (List.mem_append_left _ (List.mem_of_getElem? (i := 61) rfl))) rfl
set_option maxRecDepth 20000 in
theorem mw62 : Cond.arrayClass .long ∈ WALL := ez_mem (List.mem_append_right _ (List.mem_append_left _ (List.mem_of_getElem? (i := 62) rfl))) rfl
set_option maxRecDepth 20000 in
theorem mw103 : Cond.methodLink RL 13 yX3_type ∈ WALL := ez_mem (List.mem_append_right _ (List.mem_append_left _ (List.mem_of_getElem? (i := 103) rfl))) rfl
set_option maxRecDepth 20000 in
theorem mw104 : Cond.instanceMethod yX3_type ∈ WALL := ez_mem (List.mem_append_right _ (List.mem_append_left _ (List.mem_of_getElem? (i := 104) rfl))) rfl
set_option maxRecDepth 20000 in
theorem mw105 : Cond.selects RX3 yX3_type yX3_type ∈ WALL := ez_mem (List.mem_append_right _ (List.mem_append_left _ (List.mem_of_getElem? (i := 105) rfl))) rfl
set_option maxRecDepth 20000 in
theorem mw106 : Cond.code yX3_type prog_1_method_2_code 2 (some .boolean) ∈ WALL := ez_mem (List.mem_append_right _ (List.mem_append_left _ (List.mem_of_getElem? (i := 106) rfl))) rfl
set_option maxRecDepth 20000 in
theorem mw116 : Cond.methodLink RL 18 yX3_erase ∈ WALL := ez_mem (List.mem_append_right _ (List.mem_append_left _ (List.mem_of_getElem? (i := 116) rfl))) rfl
set_option maxRecDepth 20000 in
theorem mw117 : Cond.instanceMethod yX3_erase ∈ WALL := ez_mem (List.mem_append_right _ (List.mem_append_left _ (List.mem_of_getElem? (i := 117) rfl))) rfl
set_option maxRecDepth 20000 in
theorem mw118 : Cond.selects RX3 yX3_erase yX3_erase ∈ WALL := ez_mem (List.mem_append_right _ (List.mem_append_left _ (List.mem_of_getElem? (i := 118) rfl))) rfl
set_option maxRecDepth 20000 in
theorem mw119 : Cond.code yX3_erase prog_1_method_3_code 1 (some .boolean) ∈ WALL := ez_mem (List.mem_append_right _ (List.mem_append_left _ (List.mem_of_getElem? (i := 119) rfl))) rfl
set_option maxRecDepth 20000 in
theorem mw120 : Cond.methodLink RL 23 yX3_length ∈ WALL := ez_mem (List.mem_append_right _ (List.mem_append_left _ (List.mem_of_getElem? (i := 120) rfl))) rfl
set_option maxRecDepth 20000 in
theorem mw121 : Cond.instanceMethod yX3_length ∈ WALL := ez_mem (List.mem_append_right _ (List.mem_append_left _ (List.mem_of_getElem? (i := 121) rfl))) rfl
set_option maxRecDepth 20000 in
theorem mw122 : Cond.selects RX3 yX3_length yX3_length ∈ WALL := ez_mem (List.mem_append_right _ (List.mem_append_left _ (List.mem_of_getElem? (i := 122) rfl))) rfl
set_option maxRecDepth 20000 in
theorem mw123 : Cond.code yX3_length prog_1_method_4_code 1 (some .int) ∈ WALL := ez_mem (List.mem_append_right _ (List.mem_append_left _ (List.mem_of_getElem? (i := 123) rfl))) rfl
set_option maxRecDepth 20000 in
theorem mw124 : Cond.methodLink RL 28 yX3_define ∈ WALL := ez_mem (List.mem_append_right _ (List.mem_append_left _ (List.mem_of_getElem? (i := 124) rfl))) rfl
set_option maxRecDepth 20000 in
theorem mw125 : Cond.instanceMethod yX3_define ∈ WALL := ez_mem (List.mem_append_right _ (List.mem_append_left _ (List.mem_of_getElem? (i := 125) rfl))) rfl
set_option maxRecDepth 20000 in
theorem mw126 : Cond.selects RX3 yX3_define yX3_define ∈ WALL := ez_mem (List.mem_append_right _ (List.mem_append_left _ (List.mem_of_getElem? (i := 126) rfl))) rfl
set_option maxRecDepth 20000 in
theorem mw127 : Cond.code yX3_define prog_1_method_5_code 6 (some .int) ∈ WALL := ez_mem (List.mem_append_right _ (List.mem_append_left _ (List.mem_of_getElem? (i := 127) rfl))) rfl
set_option maxRecDepth 20000 in
theorem mw131 : Cond.methodLink RX3 45 yX0_count ∈ WALL := ez_mem (List.mem_append_right _ (List.mem_append_left _ (List.mem_of_getElem? (i := 131) rfl))) rfl
set_option maxRecDepth 20000 in
theorem mw132 : Cond.instanceMethod yX0_count ∈ WALL := ez_mem (List.mem_append_right _ (List.mem_append_left _ (List.mem_of_getElem? (i := 132) rfl))) rfl
set_option maxRecDepth 20000 in
theorem mw133 : Cond.selects RX0 yX0_count yX0_count ∈ WALL := ez_mem (List.mem_append_right _ (List.mem_append_left _ (List.mem_of_getElem? (i := 133) rfl))) rfl
set_option maxRecDepth 20000 in
theorem mw134 : Cond.code yX0_count prog_2_method_2_code 1 (some .int) ∈ WALL := ez_mem (List.mem_append_right _ (List.mem_append_left _ (List.mem_of_getElem? (i := 134) rfl))) rfl
set_option maxRecDepth 20000 in
theorem mw135 : Cond.classLink RX3 49 RX1 ∈ WALL := ez_mem (List.mem_append_right _ (List.mem_append_left _ (List.mem_of_getElem? (i := 135) rfl))) rfl
set_option maxRecDepth 20000 in
theorem mw136 : Cond.instantiable RX1 6 ∈ WALL := ez_mem (List.mem_append_right _ (List.mem_append_left _ (List.mem_of_getElem? (i := 136) rfl))) rfl
set_option maxRecDepth 20000 in
theorem mw137 : Cond.methodLink RX3 51 yX1_init ∈ WALL := ez_mem (List.mem_append_right _ (List.mem_append_left _ (List.mem_of_getElem? (i := 137) rfl))) rfl
set_option maxRecDepth 20000 in
theorem mw138 : Cond.instanceMethod yX1_init ∈ WALL := ez_mem (List.mem_append_right _ (List.mem_append_left _ (List.mem_of_getElem? (i := 138) rfl))) rfl
set_option maxRecDepth 20000 in
theorem mw139 : Cond.code yX1_init prog_3_method_1_code 5 none ∈ WALL := ez_mem (List.mem_append_right _ (List.mem_append_left _ (List.mem_of_getElem? (i := 139) rfl))) rfl
set_option maxRecDepth 20000 in
theorem mw140 : Cond.methodLink RX1 3 objectInit ∈ WALL := ez_mem (List.mem_append_right _ (List.mem_append_left _ (List.mem_of_getElem? (i := 140) rfl))) rfl
set_option maxRecDepth 20000 in
theorem mw160 : Cond.methodLink RX3 54 yX1_readSum ∈ WALL := ez_mem (List.mem_append_right _ (List.mem_append_left _ (List.mem_of_getElem? (i := 160) rfl))) rfl
set_option maxRecDepth 20000 in
theorem mw180 : Cond.methodLinkNest RX1 64 yX3_isDigit RX3 ∈ lw_tbl := List.mem_append_right _ (List.mem_append_left _ (List.mem_of_getElem? (i := 180) rfl))
set_option maxRecDepth 20000 in
theorem mw193 : Cond.methodLinkNest RX1 72 yX3_isLetter RX3 ∈ lw_tbl := List.mem_append_right _ (List.mem_append_left _ (List.mem_of_getElem? (i := 193) rfl))
set_option maxRecDepth 20000 in
theorem mw219 : Cond.methodLink RX3 58 yX3_faultOf ∈ WALL := ez_mem (List.mem_append_right _ (List.mem_append_left _ (List.mem_of_getElem? (i := 219) rfl))) rfl
set_option maxRecDepth 20000 in
theorem mw221 : Cond.instanceMethod yX3_faultOf ∈ WALL := ez_mem (List.mem_append_right _ (List.mem_append_left _ (List.mem_of_getElem? (i := 221) rfl))) rfl
set_option maxRecDepth 20000 in
theorem mw222 : Cond.code yX3_faultOf prog_1_method_24_code 3 (some .int) ∈ WALL := ez_mem (List.mem_append_right _ (List.mem_append_left _ (List.mem_of_getElem? (i := 222) rfl))) rfl
set_option maxRecDepth 20000 in
theorem mw235 : Cond.methodLink RL 33 yX3_clear ∈ WALL := ez_mem (List.mem_append_right _ (List.mem_append_left _ (List.mem_of_getElem? (i := 235) rfl))) rfl
set_option maxRecDepth 20000 in
theorem mw236 : Cond.instanceMethod yX3_clear ∈ WALL := ez_mem (List.mem_append_right _ (List.mem_append_left _ (List.mem_of_getElem? (i := 236) rfl))) rfl
set_option maxRecDepth 20000 in
theorem mw237 : Cond.selects RX3 yX3_clear yX3_clear ∈ WALL := ez_mem (List.mem_append_right _ (List.mem_append_left _ (List.mem_of_getElem? (i := 237) rfl))) rfl
set_option maxRecDepth 20000 in
theorem mw238 : Cond.code yX3_clear prog_1_method_6_code 1 none ∈ WALL := ez_mem (List.mem_append_right _ (List.mem_append_left _ (List.mem_of_getElem? (i := 238) rfl))) rfl
set_option maxRecDepth 20000 in
theorem mw239 : Cond.methodLink RL 37 yX3_parts ∈ WALL := ez_mem (List.mem_append_right _ (List.mem_append_left _ (List.mem_of_getElem? (i := 239) rfl))) rfl
set_option maxRecDepth 20000 in
theorem mw240 : Cond.instanceMethod yX3_parts ∈ WALL := ez_mem (List.mem_append_right _ (List.mem_append_right _ (List.mem_append_left _ (List.mem_of_getElem? (i := 0) rfl)))) rfl
set_option maxRecDepth 20000 in
theorem mw241 : Cond.selects RX3 yX3_parts yX3_parts ∈ WALL := ez_mem (List.mem_append_right _ (List.mem_append_right _ (List.mem_append_left _ (List.mem_of_getElem? (i := 1) rfl)))) rfl
set_option maxRecDepth 20000 in
theorem mw242 : Cond.code yX3_parts prog_1_method_7_code 2 (some .int) ∈ WALL := ez_mem (List.mem_append_right _ (List.mem_append_right _ (List.mem_append_left _ (List.mem_of_getElem? (i := 2) rfl)))) rfl
set_option maxRecDepth 20000 in
theorem mw267 : Cond.methodLink RL 41 yX3_evaluate ∈ WALL := ez_mem (List.mem_append_right _ (List.mem_append_right _ (List.mem_append_left _ (List.mem_of_getElem? (i := 27) rfl)))) rfl
set_option maxRecDepth 20000 in
theorem mw268 : Cond.instanceMethod yX3_evaluate ∈ WALL := ez_mem (List.mem_append_right _ (List.mem_append_right _ (List.mem_append_left _ (List.mem_of_getElem? (i := 28) rfl)))) rfl
set_option maxRecDepth 20000 in
theorem mw269 : Cond.selects RX3 yX3_evaluate yX3_evaluate ∈ WALL := ez_mem (List.mem_append_right _ (List.mem_append_right _ (List.mem_append_left _ (List.mem_of_getElem? (i := 29) rfl)))) rfl
set_option maxRecDepth 20000 in
theorem mw270 : Cond.code yX3_evaluate prog_1_method_8_code 6 (some .int) ∈ WALL := ez_mem (List.mem_append_right _ (List.mem_append_right _ (List.mem_append_left _ (List.mem_of_getElem? (i := 30) rfl)))) rfl
set_option maxRecDepth 20000 in
theorem mw395 : Cond.methodLink RL 46 yX3_compare ∈ WALL := ez_mem (List.mem_append_right _ (List.mem_append_right _ (List.mem_append_left _ (List.mem_of_getElem? (i := 155) rfl)))) rfl
set_option maxRecDepth 20000 in
theorem mw396 : Cond.instanceMethod yX3_compare ∈ WALL := ez_mem (List.mem_append_right _ (List.mem_append_right _ (List.mem_append_left _ (List.mem_of_getElem? (i := 156) rfl)))) rfl
set_option maxRecDepth 20000 in
theorem mw397 : Cond.selects RX3 yX3_compare yX3_compare ∈ WALL := ez_mem (List.mem_append_right _ (List.mem_append_right _ (List.mem_append_left _ (List.mem_of_getElem? (i := 157) rfl)))) rfl
set_option maxRecDepth 20000 in
theorem mw398 : Cond.code yX3_compare prog_1_method_9_code 5 (some .int) ∈ WALL := ez_mem (List.mem_append_right _ (List.mem_append_right _ (List.mem_append_left _ (List.mem_of_getElem? (i := 158) rfl)))) rfl
set_option maxRecDepth 20000 in
theorem mw399 : Cond.methodLink RL 51 yX3_work ∈ WALL := ez_mem (List.mem_append_right _ (List.mem_append_right _ (List.mem_append_left _ (List.mem_of_getElem? (i := 159) rfl)))) rfl
set_option maxRecDepth 20000 in
theorem mw400 : Cond.instanceMethod yX3_work ∈ WALL := ez_mem (List.mem_append_right _ (List.mem_append_right _ (List.mem_append_left _ (List.mem_of_getElem? (i := 160) rfl)))) rfl
set_option maxRecDepth 20000 in
theorem mw401 : Cond.selects RX3 yX3_work yX3_work ∈ WALL := ez_mem (List.mem_append_right _ (List.mem_append_right _ (List.mem_append_left _ (List.mem_of_getElem? (i := 161) rfl)))) rfl
set_option maxRecDepth 20000 in
theorem mw402 : Cond.code yX3_work prog_1_method_10_code 1 (some .int) ∈ WALL := ez_mem (List.mem_append_right _ (List.mem_append_right _ (List.mem_append_left _ (List.mem_of_getElem? (i := 162) rfl)))) rfl
set_option maxRecDepth 20000 in
theorem mw403 : Cond.methodLink RL 55 yX3_step ∈ WALL := ez_mem (List.mem_append_right _ (List.mem_append_right _ (List.mem_append_left _ (List.mem_of_getElem? (i := 163) rfl)))) rfl
set_option maxRecDepth 20000 in
theorem mw404 : Cond.instanceMethod yX3_step ∈ WALL := ez_mem (List.mem_append_right _ (List.mem_append_right _ (List.mem_append_left _ (List.mem_of_getElem? (i := 164) rfl)))) rfl
set_option maxRecDepth 20000 in
theorem mw405 : Cond.selects RX3 yX3_step yX3_step ∈ WALL := ez_mem (List.mem_append_right _ (List.mem_append_right _ (List.mem_append_left _ (List.mem_of_getElem? (i := 165) rfl)))) rfl
set_option maxRecDepth 20000 in
theorem mw406 : Cond.code yX3_step prog_1_method_11_code 1 (some .int) ∈ WALL := ez_mem (List.mem_append_right _ (List.mem_append_right _ (List.mem_append_left _ (List.mem_of_getElem? (i := 166) rfl)))) rfl
set_option maxRecDepth 20000 in
theorem mw407 : Cond.methodLink RL 59 yX3_low ∈ WALL := ez_mem (List.mem_append_right _ (List.mem_append_right _ (List.mem_append_left _ (List.mem_of_getElem? (i := 167) rfl)))) rfl
set_option maxRecDepth 20000 in
theorem mw408 : Cond.instanceMethod yX3_low ∈ WALL := ez_mem (List.mem_append_right _ (List.mem_append_right _ (List.mem_append_left _ (List.mem_of_getElem? (i := 168) rfl)))) rfl
set_option maxRecDepth 20000 in
theorem mw409 : Cond.selects RX3 yX3_low yX3_low ∈ WALL := ez_mem (List.mem_append_right _ (List.mem_append_right _ (List.mem_append_left _ (List.mem_of_getElem? (i := 169) rfl)))) rfl
set_option maxRecDepth 20000 in
theorem mw410 : Cond.code yX3_low prog_1_method_12_code 1 (some .long) ∈ WALL := ez_mem (List.mem_append_right _ (List.mem_append_right _ (List.mem_append_left _ (List.mem_of_getElem? (i := 170) rfl)))) rfl
set_option maxRecDepth 20000 in
theorem mw411 : Cond.methodLink RL 64 yX3_high ∈ WALL := ez_mem (List.mem_append_right _ (List.mem_append_right _ (List.mem_append_left _ (List.mem_of_getElem? (i := 171) rfl)))) rfl
set_option maxRecDepth 20000 in
theorem mw412 : Cond.instanceMethod yX3_high ∈ WALL := ez_mem (List.mem_append_right _ (List.mem_append_right _ (List.mem_append_left _ (List.mem_of_getElem? (i := 172) rfl)))) rfl
set_option maxRecDepth 20000 in
theorem mw413 : Cond.selects RX3 yX3_high yX3_high ∈ WALL := ez_mem (List.mem_append_right _ (List.mem_append_right _ (List.mem_append_left _ (List.mem_of_getElem? (i := 173) rfl)))) rfl
set_option maxRecDepth 20000 in
theorem mw414 : Cond.code yX3_high prog_1_method_13_code 1 (some .long) ∈ WALL := ez_mem (List.mem_append_right _ (List.mem_append_right _ (List.mem_append_left _ (List.mem_of_getElem? (i := 174) rfl)))) rfl
set_option maxRecDepth 20000 in
theorem mw415 : Cond.methodLink RL 68 yX3_decimal ∈ WALL := ez_mem (List.mem_append_right _ (List.mem_append_right _ (List.mem_append_left _ (List.mem_of_getElem? (i := 175) rfl)))) rfl
set_option maxRecDepth 20000 in
theorem mw416 : Cond.instanceMethod yX3_decimal ∈ WALL := ez_mem (List.mem_append_right _ (List.mem_append_right _ (List.mem_append_left _ (List.mem_of_getElem? (i := 176) rfl)))) rfl
set_option maxRecDepth 20000 in
theorem mw417 : Cond.selects RX3 yX3_decimal yX3_decimal ∈ WALL := ez_mem (List.mem_append_right _ (List.mem_append_right _ (List.mem_append_left _ (List.mem_of_getElem? (i := 177) rfl)))) rfl
set_option maxRecDepth 20000 in
theorem mw418 : Cond.code yX3_decimal prog_1_method_14_code 4 (some .long) ∈ WALL := ez_mem (List.mem_append_right _ (List.mem_append_right _ (List.mem_append_left _ (List.mem_of_getElem? (i := 178) rfl)))) rfl
set_option maxRecDepth 20000 in
theorem mw419 : Cond.fieldLink RX3 100 RX3 "POWERS_OF_TEN" "[J" ∈ WALL := ez_mem (List.mem_append_right _ (List.mem_append_right _ (List.mem_append_left _ (List.mem_of_getElem? (i := 179) rfl)))) rfl
set_option maxRecDepth 20000 in
theorem mw420 : Cond.laysStatic RX3 "POWERS_OF_TEN" "[J" ∈ lw_tbl := List.mem_append_right _ (List.mem_append_right _ (List.mem_append_left _ (List.mem_of_getElem? (i := 180) rfl)))
set_option maxRecDepth 20000 in
theorem mw421 : Cond.classLink RL 10 RX4 ∈ WALL := ez_mem (List.mem_append_right _ (List.mem_append_right _ (List.mem_append_left _ (List.mem_of_getElem? (i := 181) rfl)))) rfl
set_option maxRecDepth 20000 in
theorem mw422 : Cond.instantiable RX4 20 ∈ WALL := ez_mem (List.mem_append_right _ (List.mem_append_right _ (List.mem_append_left _ (List.mem_of_getElem? (i := 182) rfl)))) rfl
set_option maxRecDepth 20000 in
theorem mw423 : Cond.methodLink RL 12 yX4_init ∈ WALL := ez_mem (List.mem_append_right _ (List.mem_append_right _ (List.mem_append_left _ (List.mem_of_getElem? (i := 183) rfl)))) rfl
set_option maxRecDepth 20000 in
theorem mw424 : Cond.instanceMethod yX4_init ∈ WALL := ez_mem (List.mem_append_right _ (List.mem_append_right _ (List.mem_append_left _ (List.mem_of_getElem? (i := 184) rfl)))) rfl
set_option maxRecDepth 20000 in
theorem mw425 : Cond.code yX4_init prog_6_method_1_code 1 none ∈ WALL := ez_mem (List.mem_append_right _ (List.mem_append_right _ (List.mem_append_left _ (List.mem_of_getElem? (i := 185) rfl)))) rfl
set_option maxRecDepth 20000 in
theorem mw426 : Cond.methodLink RX4 1 objectInit ∈ WALL := ez_mem (List.mem_append_right _ (List.mem_append_right _ (List.mem_append_left _ (List.mem_of_getElem? (i := 186) rfl)))) rfl
set_option maxRecDepth 20000 in
theorem mw488 : Cond.methodLink RL 17 yX4_type ∈ WALL := ez_mem (List.mem_append_right _ (List.mem_append_right _ (List.mem_append_right _ (List.mem_of_getElem? (i := 8) rfl)))) rfl
set_option maxRecDepth 20000 in
theorem mw489 : Cond.instanceMethod yX4_type ∈ WALL := ez_mem (List.mem_append_right _ (List.mem_append_right _ (List.mem_append_right _ (List.mem_of_getElem? (i := 9) rfl)))) rfl
set_option maxRecDepth 20000 in
theorem mw490 : Cond.selects RX4 yX4_type yX4_type ∈ WALL := ez_mem (List.mem_append_right _ (List.mem_append_right _ (List.mem_append_right _ (List.mem_of_getElem? (i := 10) rfl)))) rfl
set_option maxRecDepth 20000 in
theorem mw491 : Cond.code yX4_type prog_6_method_5_code 2 (some .boolean) ∈ WALL := ez_mem (List.mem_append_right _ (List.mem_append_right _ (List.mem_append_right _ (List.mem_of_getElem? (i := 11) rfl)))) rfl
set_option maxRecDepth 20000 in
theorem mw501 : Cond.methodLink RL 22 yX4_erase ∈ WALL := ez_mem (List.mem_append_right _ (List.mem_append_right _ (List.mem_append_right _ (List.mem_of_getElem? (i := 21) rfl)))) rfl
set_option maxRecDepth 20000 in
theorem mw502 : Cond.instanceMethod yX4_erase ∈ WALL := ez_mem (List.mem_append_right _ (List.mem_append_right _ (List.mem_append_right _ (List.mem_of_getElem? (i := 22) rfl)))) rfl
set_option maxRecDepth 20000 in
theorem mw503 : Cond.selects RX4 yX4_erase yX4_erase ∈ WALL := ez_mem (List.mem_append_right _ (List.mem_append_right _ (List.mem_append_right _ (List.mem_of_getElem? (i := 23) rfl)))) rfl
set_option maxRecDepth 20000 in
theorem mw504 : Cond.code yX4_erase prog_6_method_6_code 1 (some .boolean) ∈ WALL := ez_mem (List.mem_append_right _ (List.mem_append_right _ (List.mem_append_right _ (List.mem_of_getElem? (i := 24) rfl)))) rfl
set_option maxRecDepth 20000 in
theorem mw505 : Cond.methodLink RL 27 yX4_length ∈ WALL := ez_mem (List.mem_append_right _ (List.mem_append_right _ (List.mem_append_right _ (List.mem_of_getElem? (i := 25) rfl)))) rfl
set_option maxRecDepth 20000 in
theorem mw506 : Cond.instanceMethod yX4_length ∈ WALL := ez_mem (List.mem_append_right _ (List.mem_append_right _ (List.mem_append_right _ (List.mem_of_getElem? (i := 26) rfl)))) rfl
set_option maxRecDepth 20000 in
theorem mw507 : Cond.selects RX4 yX4_length yX4_length ∈ WALL := ez_mem (List.mem_append_right _ (List.mem_append_right _ (List.mem_append_right _ (List.mem_of_getElem? (i := 27) rfl)))) rfl
set_option maxRecDepth 20000 in
theorem mw508 : Cond.code yX4_length prog_6_method_7_code 1 (some .int) ∈ WALL := ez_mem (List.mem_append_right _ (List.mem_append_right _ (List.mem_append_right _ (List.mem_of_getElem? (i := 28) rfl)))) rfl
set_option maxRecDepth 20000 in
theorem mw509 : Cond.methodLink RL 32 yX4_define ∈ WALL := ez_mem (List.mem_append_right _ (List.mem_append_right _ (List.mem_append_right _ (List.mem_of_getElem? (i := 29) rfl)))) rfl
set_option maxRecDepth 20000 in
theorem mw510 : Cond.instanceMethod yX4_define ∈ WALL := ez_mem (List.mem_append_right _ (List.mem_append_right _ (List.mem_append_right _ (List.mem_of_getElem? (i := 30) rfl)))) rfl
set_option maxRecDepth 20000 in
theorem mw511 : Cond.selects RX4 yX4_define yX4_define ∈ WALL := ez_mem (List.mem_append_right _ (List.mem_append_right _ (List.mem_append_right _ (List.mem_of_getElem? (i := 31) rfl)))) rfl
set_option maxRecDepth 20000 in
theorem mw512 : Cond.code yX4_define prog_6_method_20_code 3 (some .int) ∈ WALL := ez_mem (List.mem_append_right _ (List.mem_append_right _ (List.mem_append_right _ (List.mem_of_getElem? (i := 32) rfl)))) rfl
set_option maxRecDepth 20000 in
theorem mw559 : Cond.methodLink RL 36 yX4_clear ∈ WALL := ez_mem (List.mem_append_right _ (List.mem_append_right _ (List.mem_append_right _ (List.mem_of_getElem? (i := 79) rfl)))) rfl
set_option maxRecDepth 20000 in
theorem mw560 : Cond.instanceMethod yX4_clear ∈ WALL := ez_mem (List.mem_append_right _ (List.mem_append_right _ (List.mem_append_right _ (List.mem_of_getElem? (i := 80) rfl)))) rfl
set_option maxRecDepth 20000 in
theorem mw561 : Cond.selects RX4 yX4_clear yX4_clear ∈ WALL := ez_mem (List.mem_append_right _ (List.mem_append_right _ (List.mem_append_right _ (List.mem_of_getElem? (i := 81) rfl)))) rfl
set_option maxRecDepth 20000 in
theorem mw562 : Cond.code yX4_clear prog_6_method_21_code 2 none ∈ WALL := ez_mem (List.mem_append_right _ (List.mem_append_right _ (List.mem_append_right _ (List.mem_of_getElem? (i := 82) rfl)))) rfl
set_option maxRecDepth 20000 in
theorem mw563 : Cond.methodLink RL 40 yX4_parts ∈ WALL := ez_mem (List.mem_append_right _ (List.mem_append_right _ (List.mem_append_right _ (List.mem_of_getElem? (i := 83) rfl)))) rfl
set_option maxRecDepth 20000 in
theorem mw564 : Cond.instanceMethod yX4_parts ∈ WALL := ez_mem (List.mem_append_right _ (List.mem_append_right _ (List.mem_append_right _ (List.mem_of_getElem? (i := 84) rfl)))) rfl
set_option maxRecDepth 20000 in
theorem mw565 : Cond.selects RX4 yX4_parts yX4_parts ∈ WALL := ez_mem (List.mem_append_right _ (List.mem_append_right _ (List.mem_append_right _ (List.mem_of_getElem? (i := 85) rfl)))) rfl
set_option maxRecDepth 20000 in
theorem mw566 : Cond.code yX4_parts prog_6_method_31_code 2 (some .int) ∈ WALL := ez_mem (List.mem_append_right _ (List.mem_append_right _ (List.mem_append_right _ (List.mem_of_getElem? (i := 86) rfl)))) rfl
set_option maxRecDepth 20000 in
theorem mw575 : Cond.methodLink RL 45 yX4_evaluate ∈ WALL := ez_mem (List.mem_append_right _ (List.mem_append_right _ (List.mem_append_right _ (List.mem_of_getElem? (i := 95) rfl)))) rfl
set_option maxRecDepth 20000 in
theorem mw576 : Cond.instanceMethod yX4_evaluate ∈ WALL := ez_mem (List.mem_append_right _ (List.mem_append_right _ (List.mem_append_right _ (List.mem_of_getElem? (i := 96) rfl)))) rfl
set_option maxRecDepth 20000 in
theorem mw577 : Cond.selects RX4 yX4_evaluate yX4_evaluate ∈ WALL := ez_mem (List.mem_append_right _ (List.mem_append_right _ (List.mem_append_right _ (List.mem_of_getElem? (i := 97) rfl)))) rfl
set_option maxRecDepth 20000 in
theorem mw578 : Cond.code yX4_evaluate prog_6_method_33_code 7 (some .int) ∈ WALL := ez_mem (List.mem_append_right _ (List.mem_append_right _ (List.mem_append_right _ (List.mem_of_getElem? (i := 98) rfl)))) rfl
set_option maxRecDepth 20000 in
theorem mw612 : Cond.methodLink RL 50 yX4_compare ∈ WALL := ez_mem (List.mem_append_right _ (List.mem_append_right _ (List.mem_append_right _ (List.mem_of_getElem? (i := 132) rfl)))) rfl
set_option maxRecDepth 20000 in
theorem mw613 : Cond.instanceMethod yX4_compare ∈ WALL := ez_mem (List.mem_append_right _ (List.mem_append_right _ (List.mem_append_right _ (List.mem_of_getElem? (i := 133) rfl)))) rfl
set_option maxRecDepth 20000 in
theorem mw614 : Cond.selects RX4 yX4_compare yX4_compare ∈ WALL := ez_mem (List.mem_append_right _ (List.mem_append_right _ (List.mem_append_right _ (List.mem_of_getElem? (i := 134) rfl)))) rfl
set_option maxRecDepth 20000 in
theorem mw615 : Cond.code yX4_compare prog_6_method_35_code 10 (some .int) ∈ WALL := ez_mem (List.mem_append_right _ (List.mem_append_right _ (List.mem_append_right _ (List.mem_of_getElem? (i := 135) rfl)))) rfl
set_option maxRecDepth 20000 in
theorem mw620 : Cond.methodLink RL 54 yX4_work ∈ WALL := ez_mem (List.mem_append_right _ (List.mem_append_right _ (List.mem_append_right _ (List.mem_of_getElem? (i := 140) rfl)))) rfl
set_option maxRecDepth 20000 in
theorem mw621 : Cond.instanceMethod yX4_work ∈ WALL := ez_mem (List.mem_append_right _ (List.mem_append_right _ (List.mem_append_right _ (List.mem_of_getElem? (i := 141) rfl)))) rfl
set_option maxRecDepth 20000 in
theorem mw622 : Cond.selects RX4 yX4_work yX4_work ∈ WALL := ez_mem (List.mem_append_right _ (List.mem_append_right _ (List.mem_append_right _ (List.mem_of_getElem? (i := 142) rfl)))) rfl
set_option maxRecDepth 20000 in
theorem mw623 : Cond.code yX4_work prog_6_method_36_code 1 (some .int) ∈ WALL := ez_mem (List.mem_append_right _ (List.mem_append_right _ (List.mem_append_right _ (List.mem_of_getElem? (i := 143) rfl)))) rfl
set_option maxRecDepth 20000 in
theorem mw624 : Cond.methodLink RL 58 yX4_step ∈ WALL := ez_mem (List.mem_append_right _ (List.mem_append_right _ (List.mem_append_right _ (List.mem_of_getElem? (i := 144) rfl)))) rfl
set_option maxRecDepth 20000 in
theorem mw625 : Cond.instanceMethod yX4_step ∈ WALL := ez_mem (List.mem_append_right _ (List.mem_append_right _ (List.mem_append_right _ (List.mem_of_getElem? (i := 145) rfl)))) rfl
set_option maxRecDepth 20000 in
theorem mw626 : Cond.selects RX4 yX4_step yX4_step ∈ WALL := ez_mem (List.mem_append_right _ (List.mem_append_right _ (List.mem_append_right _ (List.mem_of_getElem? (i := 146) rfl)))) rfl
set_option maxRecDepth 20000 in
theorem mw627 : Cond.code yX4_step prog_6_method_37_code 1 (some .int) ∈ WALL := ez_mem (List.mem_append_right _ (List.mem_append_right _ (List.mem_append_right _ (List.mem_of_getElem? (i := 147) rfl)))) rfl
set_option maxRecDepth 20000 in
theorem mw628 : Cond.methodLink RL 63 yX4_low ∈ WALL := ez_mem (List.mem_append_right _ (List.mem_append_right _ (List.mem_append_right _ (List.mem_of_getElem? (i := 148) rfl)))) rfl
set_option maxRecDepth 20000 in
theorem mw629 : Cond.instanceMethod yX4_low ∈ WALL := ez_mem (List.mem_append_right _ (List.mem_append_right _ (List.mem_append_right _ (List.mem_of_getElem? (i := 149) rfl)))) rfl
set_option maxRecDepth 20000 in
theorem mw630 : Cond.selects RX4 yX4_low yX4_low ∈ WALL := ez_mem (List.mem_append_right _ (List.mem_append_right _ (List.mem_append_right _ (List.mem_of_getElem? (i := 150) rfl)))) rfl
set_option maxRecDepth 20000 in
theorem mw631 : Cond.code yX4_low prog_6_method_38_code 1 (some .long) ∈ WALL := ez_mem (List.mem_append_right _ (List.mem_append_right _ (List.mem_append_right _ (List.mem_of_getElem? (i := 151) rfl)))) rfl
set_option maxRecDepth 20000 in
theorem mw632 : Cond.methodLink RL 67 yX4_high ∈ WALL := ez_mem (List.mem_append_right _ (List.mem_append_right _ (List.mem_append_right _ (List.mem_of_getElem? (i := 152) rfl)))) rfl
set_option maxRecDepth 20000 in
theorem mw633 : Cond.instanceMethod yX4_high ∈ WALL := ez_mem (List.mem_append_right _ (List.mem_append_right _ (List.mem_append_right _ (List.mem_of_getElem? (i := 153) rfl)))) rfl
set_option maxRecDepth 20000 in
theorem mw634 : Cond.selects RX4 yX4_high yX4_high ∈ WALL := ez_mem (List.mem_append_right _ (List.mem_append_right _ (List.mem_append_right _ (List.mem_of_getElem? (i := 154) rfl)))) rfl
set_option maxRecDepth 20000 in
theorem mw635 : Cond.code yX4_high prog_6_method_39_code 1 (some .long) ∈ WALL := ez_mem (List.mem_append_right _ (List.mem_append_right _ (List.mem_append_right _ (List.mem_of_getElem? (i := 155) rfl)))) rfl
set_option maxRecDepth 20000 in
theorem mw636 : Cond.methodLink RL 72 yX4_decimal ∈ WALL := ez_mem (List.mem_append_right _ (List.mem_append_right _ (List.mem_append_right _ (List.mem_of_getElem? (i := 156) rfl)))) rfl
set_option maxRecDepth 20000 in
theorem mw637 : Cond.instanceMethod yX4_decimal ∈ WALL := ez_mem (List.mem_append_right _ (List.mem_append_right _ (List.mem_append_right _ (List.mem_of_getElem? (i := 157) rfl)))) rfl
set_option maxRecDepth 20000 in
theorem mw638 : Cond.selects RX4 yX4_decimal yX4_decimal ∈ WALL := ez_mem (List.mem_append_right _ (List.mem_append_right _ (List.mem_append_right _ (List.mem_of_getElem? (i := 158) rfl)))) rfl
set_option maxRecDepth 20000 in
theorem mw639 : Cond.code yX4_decimal prog_6_method_40_code 8 (some .long) ∈ WALL := ez_mem (List.mem_append_right _ (List.mem_append_right _ (List.mem_append_right _ (List.mem_of_getElem? (i := 159) rfl)))) rfl
