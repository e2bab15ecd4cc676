/-! ===== the class's own throws: words ===== -/
def th_names : List String := ["java/lang/RuntimeException", "java/lang/Exception"]
theorem th_fit : ∀ n ∈ th_names, Bundle.fit n = true := by decide +kernel
theorem fit_IllegalArgumentException : Bundle.fit "java/lang/IllegalArgumentException" = true := by decide +kernel
set_option maxRecDepth 100000 in
theorem ti_IllegalArgumentException : Cond.initialized "java/lang/IllegalArgumentException" ∈ lw_T := lw_T_mem (List.mem_of_getElem? (i := 40) (by decide +kernel)) (by decide +kernel)
set_option maxRecDepth 100000 in
theorem th_X4_241_245 : ∀ w ∈ vx_atS RX4 245 "java/lang/IllegalArgumentException" th_names, w ∈ lw_T := fun w hw => lw_T_mem ((by decide +kernel : ∀ w ∈ vx_atS RX4 245 "java/lang/IllegalArgumentException" th_names, w ∈ lw_tbl) w hw) ((by decide +kernel : ∀ w ∈ vx_atS RX4 245 "java/lang/IllegalArgumentException" th_names, q_lasts w = true) w hw)
set_option maxRecDepth 100000 in
theorem tg_X4_241_245 : ∀ w ∈ Cond.classLink RX4 241 "java/lang/IllegalArgumentException" :: Cond.initialized "java/lang/IllegalArgumentException" :: vx_atS RX4 245 "java/lang/IllegalArgumentException" th_names, vx_ot w = true := by decide +kernel
theorem fit_IllegalStateException : Bundle.fit "java/lang/IllegalStateException" = true := by decide +kernel
set_option maxRecDepth 100000 in
theorem ti_IllegalStateException : Cond.initialized "java/lang/IllegalStateException" ∈ lw_T := lw_T_mem (List.mem_of_getElem? (i := 42) (by decide +kernel)) (by decide +kernel)
set_option maxRecDepth 100000 in
theorem th_X4_57_61 : ∀ w ∈ vx_atS RX4 61 "java/lang/IllegalStateException" th_names, w ∈ lw_T := fun w hw => lw_T_mem ((by decide +kernel : ∀ w ∈ vx_atS RX4 61 "java/lang/IllegalStateException" th_names, w ∈ lw_tbl) w hw) ((by decide +kernel : ∀ w ∈ vx_atS RX4 61 "java/lang/IllegalStateException" th_names, q_lasts w = true) w hw)
set_option maxRecDepth 100000 in
theorem tg_X4_57_61 : ∀ w ∈ Cond.classLink RX4 57 "java/lang/IllegalStateException" :: Cond.initialized "java/lang/IllegalStateException" :: vx_atS RX4 61 "java/lang/IllegalStateException" th_names, vx_ot w = true := by decide +kernel
theorem fit_IndexOutOfBoundsException : Bundle.fit "java/lang/IndexOutOfBoundsException" = true := by decide +kernel
set_option maxRecDepth 100000 in
theorem ti_IndexOutOfBoundsException : Cond.initialized "java/lang/IndexOutOfBoundsException" ∈ lw_T := lw_T_mem (List.mem_of_getElem? (i := 38) (by decide +kernel)) (by decide +kernel)
set_option maxRecDepth 100000 in
theorem th_X4_184_188 : ∀ w ∈ vx_atS RX4 188 "java/lang/IndexOutOfBoundsException" th_names, w ∈ lw_T := fun w hw => lw_T_mem ((by decide +kernel : ∀ w ∈ vx_atS RX4 188 "java/lang/IndexOutOfBoundsException" th_names, w ∈ lw_tbl) w hw) ((by decide +kernel : ∀ w ∈ vx_atS RX4 188 "java/lang/IndexOutOfBoundsException" th_names, q_lasts w = true) w hw)
set_option maxRecDepth 100000 in
theorem tg_X4_184_188 : ∀ w ∈ Cond.classLink RX4 184 "java/lang/IndexOutOfBoundsException" :: Cond.initialized "java/lang/IndexOutOfBoundsException" :: vx_atS RX4 188 "java/lang/IndexOutOfBoundsException" th_names, vx_ot w = true := by decide +kernel
