set_option maxRecDepth 20000 in
theorem mp12 : Cond.selects RX3 yX3_faultOf yX3_faultOf ∈ WALL := ez_mem (List.mem_append_left _ (List.mem_of_getElem? (i := 12) rfl)) rfl
set_option maxRecDepth 20000 in
theorem mw12 : Cond.methodLink RX3 1 objectInit ∈ WALL := ez_mem (List.mem_append_right _ (List.mem_append_left _ (List.mem_of_getElem? (i := 12) rfl))) rfl
set_option maxRecDepth 20000 in
theorem mw13 : Cond.instanceMethod objectInit ∈ WALL := ez_mem (List.mem_append_right _ (List.mem_append_left _ (List.mem_of_getElem? (i := 13) rfl))) rfl
set_option maxRecDepth 20000 in
theorem mw14 : Cond.code objectInit object_method_1_code 1 none ∈ WALL := ez_mem (List.mem_append_right _ (List.mem_append_left _ (List.mem_of_getElem? (i := 14) rfl))) rfl
set_option maxRecDepth 20000 in
theorem mw15 : Cond.classLink RX3 13 RX0 ∈ WALL := ez_mem (List.mem_append_right _ (List.mem_append_left _ (List.mem_of_getElem? (i := 15) rfl))) rfl
set_option maxRecDepth 20000 in
theorem mw16 : Cond.instantiable RX0 5 ∈ WALL := ez_mem (List.mem_append_right _ (List.mem_append_left _ (List.mem_of_getElem? (i := 16) rfl))) rfl
set_option maxRecDepth 20000 in
theorem mw18 : Cond.instanceMethod yX0_init ∈ WALL := ez_mem (List.mem_append_right _ (List.mem_append_left _ (List.mem_of_getElem? (i := 18) rfl))) rfl
set_option maxRecDepth 20000 in
theorem mw19 : Cond.code yX0_init prog_2_method_1_code 1 none ∈ WALL := ez_mem (List.mem_append_right _ (List.mem_append_left _ (List.mem_of_getElem? (i := 19) rfl))) rfl
set_option maxRecDepth 20000 in
theorem mw20 : Cond.methodLink RX0 3 objectInit ∈ WALL := ez_mem (List.mem_append_right _ (List.mem_append_left _ (List.mem_of_getElem? (i := 20) rfl))) rfl
set_option maxRecDepth 20000 in
theorem mw37 : Cond.arrayClass .char ∈ WALL := ez_mem (List.mem_append_right _ (List.mem_append_left _ (List.mem_of_getElem? (i := 37) rfl))) rfl
set_option maxRecDepth 20000 in
theorem mw38 : Cond.arrayClass .int ∈ WALL := ez_mem (List.mem_append_right _ (List.mem_append_left _ (List.mem_of_getElem? (i := 38) rfl))) rfl
set_option maxRecDepth 20000 in
theorem mw39 : Cond.classLink RX3 24 RX2 ∈ WALL := ez_mem (List.mem_append_right _ (List.mem_append_left _ (List.mem_of_getElem? (i := 39) rfl))) rfl
set_option maxRecDepth 20000 in
theorem mw40 : Cond.instantiable RX2 5 ∈ WALL := ez_mem (List.mem_append_right _ (List.mem_append_left _ (List.mem_of_getElem? (i := 40) rfl))) rfl
set_option maxRecDepth 20000 in
theorem mw42 : Cond.instanceMethod yX2_init ∈ WALL := ez_mem (List.mem_append_right _ (List.mem_append_left _ (List.mem_of_getElem? (i := 42) rfl))) rfl
set_option maxRecDepth 20000 in
theorem mw43 : Cond.code yX2_init prog_4_method_1_code 1 none ∈ WALL := ez_mem (List.mem_append_right _ (List.mem_append_left _ (List.mem_of_getElem? (i := 43) rfl))) rfl
set_option maxRecDepth 20000 in
theorem mw44 : Cond.methodLink RX2 1 objectInit ∈ WALL := ez_mem (List.mem_append_right _ (List.mem_append_left _ (List.mem_of_getElem? (i := 44) rfl))) rfl
set_option maxRecDepth 20000 in
theorem mw61 : Cond.arrayClass .boolean ∈ WALL := ez_mem (List.mem_append_right _ (List.mem_append_left _ (List.mem_of_getElem? (i := 61) rfl))) rfl
set_option maxRecDepth 20000 in
theorem mw62 : Cond.arrayClass .long ∈ WALL := ez_mem (List.mem_append_right _ (List.mem_append_left _ (List.mem_of_getElem? (i := 62) rfl))) rfl
set_option maxRecDepth 20000 in
theorem mw131 : Cond.methodLink RX3 45 yX0_count ∈ WALL := ez_mem (List.mem_append_right _ (List.mem_append_left _ (List.mem_of_getElem? (i := 131) rfl))) rfl
set_option maxRecDepth 20000 in
theorem mw132 : Cond.instanceMethod yX0_count ∈ WALL := ez_mem (List.mem_append_right _ (List.mem_append_left _ (List.mem_of_getElem? (i := 132) rfl))) rfl
set_option maxRecDepth 20000 in
theorem mw133 : Cond.selects RX0 yX0_count yX0_count ∈ WALL := ez_mem (List.mem_append_right _ (List.mem_append_left _ (List.mem_of_getElem? (i := 133) rfl))) rfl
set_option maxRecDepth 20000 in
theorem mw134 : Cond.code yX0_count prog_2_method_2_code 1 (some .int) ∈ WALL := ez_mem (List.mem_append_right _ (List.mem_append_left _ (List.mem_of_getElem? (i := 134) rfl))) rfl
set_option maxRecDepth 20000 in
theorem mw135 : Cond.classLink RX3 49 RX1 ∈ WALL := ez_mem (List.mem_append_right _ (List.mem_append_left _ (List.mem_of_getElem? (i := 135) rfl))) rfl
set_option maxRecDepth 20000 in
theorem mw136 : Cond.instantiable RX1 6 ∈ WALL := ez_mem (List.mem_append_right _ (List.mem_append_left _ (List.mem_of_getElem? (i := 136) rfl))) rfl
set_option maxRecDepth 20000 in
theorem mw137 : Cond.methodLink RX3 51 yX1_init ∈ WALL := ez_mem (List.mem_append_right _ (List.mem_append_left _ (List.mem_of_getElem? (i := 137) rfl))) rfl
set_option maxRecDepth 20000 in
theorem mw138 : Cond.instanceMethod yX1_init ∈ WALL := ez_mem (List.mem_append_right _ (List.mem_append_left _ (List.mem_of_getElem? (i := 138) rfl))) rfl
set_option maxRecDepth 20000 in
theorem mw139 : Cond.code yX1_init prog_3_method_1_code 5 none ∈ WALL := ez_mem (List.mem_append_right _ (List.mem_append_left _ (List.mem_of_getElem? (i := 139) rfl))) rfl
set_option maxRecDepth 20000 in
theorem mw140 : Cond.methodLink RX1 3 objectInit ∈ WALL := ez_mem (List.mem_append_right _ (List.mem_append_left _ (List.mem_of_getElem? (i := 140) rfl))) rfl
set_option maxRecDepth 20000 in
theorem mw160 : Cond.methodLink RX3 54 yX1_readSum ∈ WALL := ez_mem (List.mem_append_right _ (List.mem_append_left _ (List.mem_of_getElem? (i := 160) rfl))) rfl
set_option maxRecDepth 20000 in
theorem mw219 : Cond.methodLink RX3 58 yX3_faultOf ∈ WALL := ez_mem (List.mem_append_right _ (List.mem_append_left _ (List.mem_of_getElem? (i := 219) rfl))) rfl
set_option maxRecDepth 20000 in
theorem mw221 : Cond.instanceMethod yX3_faultOf ∈ WALL := ez_mem (List.mem_append_right _ (List.mem_append_left _ (List.mem_of_getElem? (i := 221) rfl))) rfl
set_option maxRecDepth 20000 in
theorem mw222 : Cond.code yX3_faultOf prog_1_method_24_code 3 (some .int) ∈ WALL := ez_mem (List.mem_append_right _ (List.mem_append_left _ (List.mem_of_getElem? (i := 222) rfl))) rfl
set_option maxRecDepth 20000 in
theorem mw419 : Cond.fieldLink RX3 100 RX3 "POWERS_OF_TEN" "[J" ∈ WALL := ez_mem (List.mem_append_right _ (List.mem_append_right _ (List.mem_append_left _ (List.mem_of_getElem? (i := 179) rfl)))) rfl
set_option maxRecDepth 20000 in
theorem mw426 : Cond.methodLink RX4 1 objectInit ∈ WALL := ez_mem (List.mem_append_right _ (List.mem_append_right _ (List.mem_append_left _ (List.mem_of_getElem? (i := 186) rfl)))) rfl
