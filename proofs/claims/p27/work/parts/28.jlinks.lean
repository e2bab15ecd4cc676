set_option maxRecDepth 100000 in
theorem jw_nat : Cond.native arraycopyName ∈ lw_T := lw_T_mem (List.mem_of_getElem? (i := 346) (by decide +kernel)) (by decide +kernel)
set_option maxRecDepth 100000 in
theorem jw_stat : Cond.static arraycopyName ∈ lw_T := lw_T_mem (List.mem_of_getElem? (i := 345) (by decide +kernel)) (by decide +kernel)
set_option maxRecDepth 100000 in
theorem jw_ini : Cond.initialized "java/lang/System" ∈ lw_T := lw_T_mem (List.mem_of_getElem? (i := 45) (by decide +kernel)) (by decide +kernel)
set_option maxRecDepth 100000 in
theorem jw_ac_J7_150 : Cond.methodLink RJ7 150 arraycopyName ∈ lw_T := lw_T_mem (List.mem_of_getElem? (i := 344) (by decide +kernel)) (by decide +kernel)
set_option maxRecDepth 100000 in
theorem jw_ac_J0_212 : Cond.methodLink RJ0 212 arraycopyName ∈ lw_T := lw_T_mem (List.mem_of_getElem? (i := 611) (by decide +kernel)) (by decide +kernel)
set_option maxRecDepth 100000 in
theorem jw_gc_J7_86 : Cond.methodLink RJ7 86 ygC ∈ lw_T := lw_T_mem (List.mem_of_getElem? (i := 320) (by decide +kernel)) (by decide +kernel)
set_option maxRecDepth 100000 in
theorem jw_ac_Jx4a65c_112 : Cond.methodLink RJx4a65c 112 arraycopyName ∈ lw_T := lw_T_mem (List.mem_of_getElem? (i := 445) (by decide +kernel)) (by decide +kernel)
set_option maxRecDepth 100000 in
theorem jw_ac_X0_36 : Cond.methodLink RX0 36 arraycopyName ∈ lw_T := lw_T_mem (List.mem_of_getElem? (i := 945) (by decide +kernel)) (by decide +kernel)
set_option maxRecDepth 100000 in
theorem jw_g1 : Cond.declares ygC ∈ lw_T := lw_T_mem (List.mem_of_getElem? (i := 998) (by decide +kernel)) (by decide +kernel)
set_option maxRecDepth 100000 in
theorem jw_g2 : Cond.selects "[Ljava/lang/Object;" ygC ygC ∈ lw_T := lw_T_mem (List.mem_of_getElem? (i := 997) (by decide +kernel)) (by decide +kernel)
set_option maxRecDepth 100000 in
theorem jw_g3 : Cond.instanceMethod ygC ∈ lw_T := lw_T_mem (List.mem_of_getElem? (i := 321) (by decide +kernel)) (by decide +kernel)
set_option maxRecDepth 100000 in
theorem jw_g4 : Cond.native ygC ∈ lw_T := lw_T_mem (List.mem_of_getElem? (i := 334) (by decide +kernel)) (by decide +kernel)
set_option maxRecDepth 100000 in
theorem jw_c_X1 : Cond.castable RX1 "java/lang/Object" ∈ lw_T := lw_T_mem (List.mem_of_getElem? (i := 992) (by decide +kernel)) (by decide +kernel)
set_option maxRecDepth 100000 in
theorem jw_c_X2 : Cond.castable RX2 "java/lang/Object" ∈ lw_T := lw_T_mem (List.mem_of_getElem? (i := 991) (by decide +kernel)) (by decide +kernel)
