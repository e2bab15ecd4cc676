set_option maxRecDepth 100000 in
theorem in_Jx4a65c : ∀ w ∈ u_ws RJx4a65c TJx4a65c 3, w ∈ lw_T := fun w hw => lw_T_mem ((by decide +kernel : ∀ w ∈ u_ws RJx4a65c TJx4a65c 3, w ∈ lw_tbl) w hw) ((by decide +kernel : ∀ w ∈ u_ws RJx4a65c TJx4a65c 3, q_lasts w = true) w hw)
set_option maxRecDepth 100000 in
theorem in_X0 : ∀ w ∈ u_ws RX0 TX0 5, w ∈ lw_T := fun w hw => lw_T_mem ((by decide +kernel : ∀ w ∈ u_ws RX0 TX0 5, w ∈ lw_tbl) w hw) ((by decide +kernel : ∀ w ∈ u_ws RX0 TX0 5, q_lasts w = true) w hw)
set_option maxRecDepth 100000 in
theorem in_X1 : ∀ w ∈ u_ws RX1 TX1 7, w ∈ lw_T := fun w hw => lw_T_mem ((by decide +kernel : ∀ w ∈ u_ws RX1 TX1 7, w ∈ lw_tbl) w hw) ((by decide +kernel : ∀ w ∈ u_ws RX1 TX1 7, q_lasts w = true) w hw)
set_option maxRecDepth 100000 in
theorem in_X2 : ∀ w ∈ u_ws RX2 TX2 4, w ∈ lw_T := fun w hw => lw_T_mem ((by decide +kernel : ∀ w ∈ u_ws RX2 TX2 4, w ∈ lw_tbl) w hw) ((by decide +kernel : ∀ w ∈ u_ws RX2 TX2 4, q_lasts w = true) w hw)
set_option maxRecDepth 100000 in
theorem in_X3 : ∀ w ∈ u_ws RX3 TX3 4, w ∈ lw_T := fun w hw => lw_T_mem ((by decide +kernel : ∀ w ∈ u_ws RX3 TX3 4, w ∈ lw_tbl) w hw) ((by decide +kernel : ∀ w ∈ u_ws RX3 TX3 4, q_lasts w = true) w hw)
set_option maxRecDepth 100000 in
theorem in_X4 : ∀ w ∈ u_ws RX4 TX4 7, w ∈ lw_T := fun w hw => lw_T_mem ((by decide +kernel : ∀ w ∈ u_ws RX4 TX4 7, w ∈ lw_tbl) w hw) ((by decide +kernel : ∀ w ∈ u_ws RX4 TX4 7, q_lasts w = true) w hw)
set_option maxRecDepth 100000 in
theorem tw_oi : Cond.instanceMethod objectInit ∈ lw_T := lw_T_mem (by decide +kernel) (by decide +kernel)
set_option maxRecDepth 100000 in
theorem tw_oc : Cond.code objectInit ⟨#[0xb1]⟩ 1 none ∈ lw_T := lw_T_mem (by decide +kernel) (by decide +kernel)
set_option maxRecDepth 100000 in
theorem tw_sf : Cond.sameField "java/util/ArrayList" "java/util/AbstractList" "modCount" "I" ∈ lw_T := lw_T_mem (List.mem_of_getElem? (i := 85) (by decide +kernel)) (by decide +kernel)
theorem same_mc : ∀ (s : State) (args : Array Value) (x : ClassId × Class × Nat × Field), (∀ w ∈ lw_T, w.before args s = true) → s.fieldFound? "java/util/AbstractList" "modCount" "I" = some x → s.fieldFound? "java/util/ArrayList" "modCount" "I" = some x := by
  intro s args x h hx
  have hb := h _ tw_sf
  cases hr : s.fieldFound? "java/util/ArrayList" "modCount" "I" with
  | none => simp [Cond.before, Cond.holds, Cond.value, hr] at hb
  | some y =>
    obtain ⟨c9, k9, i9, f9⟩ := y
    have h2 := Cond.sameField_spec hr hb
    rw [hx] at h2
    exact h2.symm
set_option maxRecDepth 100000 in
theorem tw_m_X4_3 : Cond.methodLink RX4 3 objectInit ∈ lw_T := lw_T_mem (List.mem_of_getElem? (i := 58) (by decide +kernel)) (by decide +kernel)
set_option maxRecDepth 100000 in
theorem tk_X4_9 : Cond.classLink RX4 9 "RackPlanner$Site" ∈ lw_T := lw_T_mem (List.mem_of_getElem? (i := 61) (by decide +kernel)) (by decide +kernel)
set_option maxRecDepth 100000 in
theorem iw_X4_9 : Cond.instantiable RX3 4 ∈ lw_T := lw_T_mem (List.mem_of_getElem? (i := 62) (by decide +kernel)) (by decide +kernel)
set_option maxRecDepth 100000 in
theorem ix_X4_9 : Cond.initialized RX3 ∈ lw_T := lw_T_mem (List.mem_of_getElem? (i := 27) (by decide +kernel)) (by decide +kernel)
theorem fn_X4_9 : FN RX4 9 6 4 [.null, .null, .null, .null] := ⟨RX3, TX3, tyX3, rfl, in_X3, tyX3_ok, tk_X4_9, iw_X4_9, ix_X4_9, by intro j hj; rcases (show j = 0 ∨ j = 1 ∨ j = 2 ∨ j = 3 by omega) with rfl | rfl | rfl | rfl <;> rfl⟩
set_option maxRecDepth 100000 in
theorem cw_X3_init : Cond.code yX3_init cX3_init 1 none ∈ lw_T := lw_T_mem (List.mem_of_getElem? (i := 65) (by decide +kernel)) (by decide +kernel)
set_option maxRecDepth 100000 in
theorem cx_X3_init : Cond.initialized yX3_init.cls ∈ lw_T := lw_T_mem (List.mem_of_getElem? (i := 27) (by decide +kernel)) (by decide +kernel)
set_option maxRecDepth 100000 in
theorem ct_X3_init : Cond.instanceMethod yX3_init ∈ lw_T := lw_T_mem (List.mem_of_getElem? (i := 64) (by decide +kernel)) (by decide +kernel)
set_option maxRecDepth 100000 in
theorem mw_X4_11 : Cond.methodLink RX4 11 yX3_init ∈ lw_T := lw_T_mem (List.mem_of_getElem? (i := 63) (by decide +kernel)) (by decide +kernel)
theorem ci_X4_11 : CI RX4 11 yX3_init cX3_init 1 none 0 := ⟨mw_X4_11, cx_X3_init, cw_X3_init, by decide, by decide, by decide +kernel⟩
set_option maxRecDepth 100000 in
theorem fw_X4_12 : Cond.fieldLink RX4 12 "RackPlanner" "site" "LRackPlanner$Site;" ∈ lw_T := lw_T_mem (List.mem_of_getElem? (i := 149) (by decide +kernel)) (by decide +kernel)
theorem fd_X4_12_7 : FD RX4 12 7 0 := ⟨RX4, TX4, 7, "RackPlanner", rfl, in_X4, by decide, fw_X4_12, (fun s args x _ h => h)⟩
theorem fp_X4_12_7 : FP RX4 12 7 0 (.object "RackPlanner$Site") true := ⟨RX4, TX4, 7, "RackPlanner", tyX4, ⟨rfl, in_X4, by decide, fw_X4_12, (fun s args x _ h => h)⟩, tyX4_ok, nmX4, by decide +kernel, rfl, fun _ => rfl⟩
set_option maxRecDepth 100000 in
theorem fw_X4_16 : Cond.fieldLink RX4 16 "RackPlanner" "failed" "[Z" ∈ lw_T := lw_T_mem (List.mem_of_getElem? (i := 150) (by decide +kernel)) (by decide +kernel)
theorem fd_X4_16_7 : FD RX4 16 7 1 := ⟨RX4, TX4, 7, "RackPlanner", rfl, in_X4, by decide, fw_X4_16, (fun s args x _ h => h)⟩
theorem fp_X4_16_7 : FP RX4 16 7 1 (.array .boolean) true := ⟨RX4, TX4, 7, "RackPlanner", tyX4, ⟨rfl, in_X4, by decide, fw_X4_16, (fun s args x _ h => h)⟩, tyX4_ok, nmX4, by decide +kernel, rfl, fun _ => rfl⟩
set_option maxRecDepth 100000 in
theorem tk_X4_20 : Cond.classLink RX4 20 "java/util/ArrayList" ∈ lw_T := lw_T_mem (List.mem_of_getElem? (i := 118) (by decide +kernel)) (by decide +kernel)
set_option maxRecDepth 100000 in
theorem iw_X4_20 : Cond.instantiable RJx4a65c 3 ∈ lw_T := lw_T_mem (List.mem_of_getElem? (i := 68) (by decide +kernel)) (by decide +kernel)
set_option maxRecDepth 100000 in
theorem ix_X4_20 : Cond.initialized RJx4a65c ∈ lw_T := lw_T_mem (List.mem_of_getElem? (i := 30) (by decide +kernel)) (by decide +kernel)
theorem fn_X4_20 : FN RX4 20 2 3 [.int 0, .null, .int 0] := ⟨RJx4a65c, TJx4a65c, tyJx4a65c, rfl, in_Jx4a65c, tyJx4a65c_ok, tk_X4_20, iw_X4_20, ix_X4_20, by intro j hj; rcases (show j = 0 ∨ j = 1 ∨ j = 2 by omega) with rfl | rfl | rfl <;> rfl⟩
set_option maxRecDepth 100000 in
theorem cw_Jx4a65c_init_da8c8 : Cond.code yJx4a65c_init_da8c8 cJx4a65c_init_da8c8 1 none ∈ lw_T := lw_T_mem (List.mem_of_getElem? (i := 71) (by decide +kernel)) (by decide +kernel)
set_option maxRecDepth 100000 in
theorem cx_Jx4a65c_init_da8c8 : Cond.initialized yJx4a65c_init_da8c8.cls ∈ lw_T := lw_T_mem (List.mem_of_getElem? (i := 30) (by decide +kernel)) (by decide +kernel)
set_option maxRecDepth 100000 in
theorem ct_Jx4a65c_init_da8c8 : Cond.instanceMethod yJx4a65c_init_da8c8 ∈ lw_T := lw_T_mem (List.mem_of_getElem? (i := 70) (by decide +kernel)) (by decide +kernel)
set_option maxRecDepth 100000 in
theorem mw_X4_22 : Cond.methodLink RX4 22 yJx4a65c_init_da8c8 ∈ lw_T := lw_T_mem (List.mem_of_getElem? (i := 119) (by decide +kernel)) (by decide +kernel)
theorem ci_X4_22 : CI RX4 22 yJx4a65c_init_da8c8 cJx4a65c_init_da8c8 1 none 0 := ⟨mw_X4_22, cx_Jx4a65c_init_da8c8, cw_Jx4a65c_init_da8c8, by decide, by decide, by decide +kernel⟩
set_option maxRecDepth 100000 in
theorem fw_X4_23 : Cond.fieldLink RX4 23 "RackPlanner" "placed" "Ljava/util/ArrayList;" ∈ lw_T := lw_T_mem (List.mem_of_getElem? (i := 151) (by decide +kernel)) (by decide +kernel)
theorem fd_X4_23_7 : FD RX4 23 7 2 := ⟨RX4, TX4, 7, "RackPlanner", rfl, in_X4, by decide, fw_X4_23, (fun s args x _ h => h)⟩
theorem fp_X4_23_7 : FP RX4 23 7 2 (.object "java/util/ArrayList") true := ⟨RX4, TX4, 7, "RackPlanner", tyX4, ⟨rfl, in_X4, by decide, fw_X4_23, (fun s args x _ h => h)⟩, tyX4_ok, nmX4, by decide +kernel, rfl, fun _ => rfl⟩
set_option maxRecDepth 100000 in
theorem fw_X4_27 : Cond.fieldLink RX4 27 "RackPlanner" "packing" "Ljava/util/ArrayList;" ∈ lw_T := lw_T_mem (List.mem_of_getElem? (i := 152) (by decide +kernel)) (by decide +kernel)
theorem fd_X4_27_7 : FD RX4 27 7 3 := ⟨RX4, TX4, 7, "RackPlanner", rfl, in_X4, by decide, fw_X4_27, (fun s args x _ h => h)⟩
theorem fp_X4_27_7 : FP RX4 27 7 3 (.object "java/util/ArrayList") true := ⟨RX4, TX4, 7, "RackPlanner", tyX4, ⟨rfl, in_X4, by decide, fw_X4_27, (fun s args x _ h => h)⟩, tyX4_ok, nmX4, by decide +kernel, rfl, fun _ => rfl⟩
set_option maxRecDepth 100000 in
theorem tk_X4_30 : Cond.classLink RX4 30 "RackPlanner$Layout" ∈ lw_T := lw_T_mem (List.mem_of_getElem? (i := 120) (by decide +kernel)) (by decide +kernel)
set_option maxRecDepth 100000 in
theorem iw_X4_30 : Cond.instantiable RX0 5 ∈ lw_T := lw_T_mem (List.mem_of_getElem? (i := 121) (by decide +kernel)) (by decide +kernel)
set_option maxRecDepth 100000 in
theorem ix_X4_30 : Cond.initialized RX0 ∈ lw_T := lw_T_mem (List.mem_of_getElem? (i := 32) (by decide +kernel)) (by decide +kernel)
theorem fn_X4_30 : FN RX4 30 3 5 [.null, .null, .null, .null, .null] := ⟨RX0, TX0, tyX0, rfl, in_X0, tyX0_ok, tk_X4_30, iw_X4_30, ix_X4_30, by intro j hj; rcases (show j = 0 ∨ j = 1 ∨ j = 2 ∨ j = 3 ∨ j = 4 by omega) with rfl | rfl | rfl | rfl | rfl <;> rfl⟩
set_option maxRecDepth 100000 in
theorem cw_X0_init : Cond.code yX0_init cX0_init 2 none ∈ lw_T := lw_T_mem (List.mem_of_getElem? (i := 124) (by decide +kernel)) (by decide +kernel)
set_option maxRecDepth 100000 in
theorem cx_X0_init : Cond.initialized yX0_init.cls ∈ lw_T := lw_T_mem (List.mem_of_getElem? (i := 32) (by decide +kernel)) (by decide +kernel)
set_option maxRecDepth 100000 in
theorem ct_X0_init : Cond.instanceMethod yX0_init ∈ lw_T := lw_T_mem (List.mem_of_getElem? (i := 123) (by decide +kernel)) (by decide +kernel)
set_option maxRecDepth 100000 in
theorem mw_X4_32 : Cond.methodLink RX4 32 yX0_init ∈ lw_T := lw_T_mem (List.mem_of_getElem? (i := 122) (by decide +kernel)) (by decide +kernel)
theorem ci_X4_32 : CI RX4 32 yX0_init cX0_init 2 none 1 := ⟨mw_X4_32, cx_X0_init, cw_X0_init, by decide, by decide, by decide +kernel⟩
set_option maxRecDepth 100000 in
theorem fw_X4_35 : Cond.fieldLink RX4 35 "RackPlanner" "layout" "LRackPlanner$Layout;" ∈ lw_T := lw_T_mem (List.mem_of_getElem? (i := 153) (by decide +kernel)) (by decide +kernel)
theorem fd_X4_35_7 : FD RX4 35 7 4 := ⟨RX4, TX4, 7, "RackPlanner", rfl, in_X4, by decide, fw_X4_35, (fun s args x _ h => h)⟩
theorem fp_X4_35_7 : FP RX4 35 7 4 (.object "RackPlanner$Layout") false := ⟨RX4, TX4, 7, "RackPlanner", tyX4, ⟨rfl, in_X4, by decide, fw_X4_35, (fun s args x _ h => h)⟩, tyX4_ok, nmX4, by decide +kernel, rfl, fun h => by cases h⟩
set_option maxRecDepth 100000 in
theorem fw_X4_39 : Cond.fieldLink RX4 39 "RackPlanner" "spare" "LRackPlanner$Layout;" ∈ lw_T := lw_T_mem (List.mem_of_getElem? (i := 154) (by decide +kernel)) (by decide +kernel)
theorem fd_X4_39_7 : FD RX4 39 7 5 := ⟨RX4, TX4, 7, "RackPlanner", rfl, in_X4, by decide, fw_X4_39, (fun s args x _ h => h)⟩
theorem fp_X4_39_7 : FP RX4 39 7 5 (.object "RackPlanner$Layout") false := ⟨RX4, TX4, 7, "RackPlanner", tyX4, ⟨rfl, in_X4, by decide, fw_X4_39, (fun s args x _ h => h)⟩, tyX4_ok, nmX4, by decide +kernel, rfl, fun h => by cases h⟩
set_option maxRecDepth 100000 in
theorem fw_X4_42 : Cond.fieldLink RX4 42 "RackPlanner" "nextNumber" "I" ∈ lw_T := lw_T_mem (List.mem_of_getElem? (i := 155) (by decide +kernel)) (by decide +kernel)
theorem fd_X4_42_7 : FD RX4 42 7 6 := ⟨RX4, TX4, 7, "RackPlanner", rfl, in_X4, by decide, fw_X4_42, (fun s args x _ h => h)⟩
theorem fp_X4_42_7 : FP RX4 42 7 6 .int false := ⟨RX4, TX4, 7, "RackPlanner", tyX4, ⟨rfl, in_X4, by decide, fw_X4_42, (fun s args x _ h => h)⟩, tyX4_ok, nmX4, by decide +kernel, rfl, fun h => by cases h⟩
set_option maxRecDepth 100000 in
theorem cw_X4_requireRange : Cond.code yX4_requireRange cX4_requireRange 3 none ∈ lw_T := lw_T_mem (List.mem_of_getElem? (i := 177) (by decide +kernel)) (by decide +kernel)
set_option maxRecDepth 100000 in
theorem cx_X4_requireRange : Cond.initialized yX4_requireRange.cls ∈ lw_T := lw_T_mem (List.mem_of_getElem? (i := 26) (by decide +kernel)) (by decide +kernel)
set_option maxRecDepth 100000 in
theorem ct_X4_requireRange : Cond.static yX4_requireRange ∈ lw_T := lw_T_mem (List.mem_of_getElem? (i := 176) (by decide +kernel)) (by decide +kernel)
set_option maxRecDepth 100000 in
theorem mw_X4_46 : Cond.methodLink RX4 46 yX4_requireRange ∈ lw_T := lw_T_mem (List.mem_of_getElem? (i := 175) (by decide +kernel)) (by decide +kernel)
theorem ci_X4_46 : CI RX4 46 yX4_requireRange cX4_requireRange 3 none 3 := ⟨mw_X4_46, cx_X4_requireRange, cw_X4_requireRange, by decide, by decide, by decide +kernel⟩
set_option maxRecDepth 100000 in
theorem fw_X4_50 : Cond.fieldLink RX4 50 "RackPlanner$Site" "racks" "Ljava/util/ArrayList;" ∈ lw_T := lw_T_mem (List.mem_of_getElem? (i := 97) (by decide +kernel)) (by decide +kernel)
theorem fd_X4_50_6 : FD RX4 50 6 0 := ⟨RX3, TX3, 4, "RackPlanner$Site", rfl, in_X3, by decide, fw_X4_50, (fun s args x _ h => h)⟩
set_option maxRecDepth 100000 in
theorem cw_Jx4a65c_size_8abf5 : Cond.code yJx4a65c_size_8abf5 cJx4a65c_size_8abf5 1 (some .int) ∈ lw_T := lw_T_mem (List.mem_of_getElem? (i := 249) (by decide +kernel)) (by decide +kernel)
set_option maxRecDepth 100000 in
theorem cx_Jx4a65c_size_8abf5 : Cond.initialized yJx4a65c_size_8abf5.cls ∈ lw_T := lw_T_mem (List.mem_of_getElem? (i := 30) (by decide +kernel)) (by decide +kernel)
set_option maxRecDepth 100000 in
theorem ct_Jx4a65c_size_8abf5 : Cond.instanceMethod yJx4a65c_size_8abf5 ∈ lw_T := lw_T_mem (List.mem_of_getElem? (i := 247) (by decide +kernel)) (by decide +kernel)
set_option maxRecDepth 100000 in
theorem cs_Jx4a65c_size_8abf5 : Cond.selects yJx4a65c_size_8abf5.cls yJx4a65c_size_8abf5 yJx4a65c_size_8abf5 ∈ lw_T := lw_T_mem (List.mem_of_getElem? (i := 248) (by decide +kernel)) (by decide +kernel)
set_option maxRecDepth 100000 in
theorem mw_X4_53 : Cond.methodLink RX4 53 yJx4a65c_size_8abf5 ∈ lw_T := lw_T_mem (List.mem_of_getElem? (i := 246) (by decide +kernel)) (by decide +kernel)
theorem ci_X4_53 : CI RX4 53 yJx4a65c_size_8abf5 cJx4a65c_size_8abf5 1 (some .int) 0 := ⟨mw_X4_53, cx_Jx4a65c_size_8abf5, cw_Jx4a65c_size_8abf5, by decide, by decide, by decide +kernel⟩
set_option maxRecDepth 100000 in
theorem tk_X4_57 : Cond.classLink RX4 57 "java/lang/IllegalStateException" ∈ lw_T := lw_T_mem (List.mem_of_getElem? (i := 250) (by decide +kernel)) (by decide +kernel)
set_option maxRecDepth 100000 in
theorem tk_X4_64 : Cond.classLink RX4 64 "RackPlanner$Rack" ∈ lw_T := lw_T_mem (List.mem_of_getElem? (i := 266) (by decide +kernel)) (by decide +kernel)
set_option maxRecDepth 100000 in
theorem iw_X4_64 : Cond.instantiable RX2 4 ∈ lw_T := lw_T_mem (List.mem_of_getElem? (i := 267) (by decide +kernel)) (by decide +kernel)
set_option maxRecDepth 100000 in
theorem ix_X4_64 : Cond.initialized RX2 ∈ lw_T := lw_T_mem (List.mem_of_getElem? (i := 43) (by decide +kernel)) (by decide +kernel)
theorem fn_X4_64 : FN RX4 64 5 4 [.int 0, .int 0, .int 0, .int 0] := ⟨RX2, TX2, tyX2, rfl, in_X2, tyX2_ok, tk_X4_64, iw_X4_64, ix_X4_64, by intro j hj; rcases (show j = 0 ∨ j = 1 ∨ j = 2 ∨ j = 3 by omega) with rfl | rfl | rfl | rfl <;> rfl⟩
set_option maxRecDepth 100000 in
theorem cw_X2_init : Cond.code yX2_init cX2_init 5 none ∈ lw_T := lw_T_mem (List.mem_of_getElem? (i := 270) (by decide +kernel)) (by decide +kernel)
set_option maxRecDepth 100000 in
theorem cx_X2_init : Cond.initialized yX2_init.cls ∈ lw_T := lw_T_mem (List.mem_of_getElem? (i := 43) (by decide +kernel)) (by decide +kernel)
set_option maxRecDepth 100000 in
theorem ct_X2_init : Cond.instanceMethod yX2_init ∈ lw_T := lw_T_mem (List.mem_of_getElem? (i := 269) (by decide +kernel)) (by decide +kernel)
set_option maxRecDepth 100000 in
theorem mw_X4_66 : Cond.methodLink RX4 66 yX2_init ∈ lw_T := lw_T_mem (List.mem_of_getElem? (i := 268) (by decide +kernel)) (by decide +kernel)
theorem ci_X4_66 : CI RX4 66 yX2_init cX2_init 5 none 4 := ⟨mw_X4_66, cx_X2_init, cw_X2_init, by decide, by decide, by decide +kernel⟩
set_option maxRecDepth 100000 in
theorem cw_Jx4a65c_add_9ea2d : Cond.code yJx4a65c_add_9ea2d cJx4a65c_add_9ea2d 2 (some .boolean) ∈ lw_T := lw_T_mem (List.mem_of_getElem? (i := 294) (by decide +kernel)) (by decide +kernel)
set_option maxRecDepth 100000 in
theorem cx_Jx4a65c_add_9ea2d : Cond.initialized yJx4a65c_add_9ea2d.cls ∈ lw_T := lw_T_mem (List.mem_of_getElem? (i := 30) (by decide +kernel)) (by decide +kernel)
set_option maxRecDepth 100000 in
theorem ct_Jx4a65c_add_9ea2d : Cond.instanceMethod yJx4a65c_add_9ea2d ∈ lw_T := lw_T_mem (List.mem_of_getElem? (i := 292) (by decide +kernel)) (by decide +kernel)
set_option maxRecDepth 100000 in
theorem cs_Jx4a65c_add_9ea2d : Cond.selects yJx4a65c_add_9ea2d.cls yJx4a65c_add_9ea2d yJx4a65c_add_9ea2d ∈ lw_T := lw_T_mem (List.mem_of_getElem? (i := 293) (by decide +kernel)) (by decide +kernel)
set_option maxRecDepth 100000 in
theorem mw_X4_69 : Cond.methodLink RX4 69 yJx4a65c_add_9ea2d ∈ lw_T := lw_T_mem (List.mem_of_getElem? (i := 291) (by decide +kernel)) (by decide +kernel)
theorem ci_X4_69 : CI RX4 69 yJx4a65c_add_9ea2d cJx4a65c_add_9ea2d 2 (some .boolean) 1 := ⟨mw_X4_69, cx_Jx4a65c_add_9ea2d, cw_Jx4a65c_add_9ea2d, by decide, by decide, by decide +kernel⟩
set_option maxRecDepth 100000 in
theorem cw_X0_heatInRow : Cond.code yX0_heatInRow cX0_heatInRow 2 (some .int) ∈ lw_T := lw_T_mem (List.mem_of_getElem? (i := 730) (by decide +kernel)) (by decide +kernel)
set_option maxRecDepth 100000 in
theorem cx_X0_heatInRow : Cond.initialized yX0_heatInRow.cls ∈ lw_T := lw_T_mem (List.mem_of_getElem? (i := 32) (by decide +kernel)) (by decide +kernel)
set_option maxRecDepth 100000 in
theorem ct_X0_heatInRow : Cond.instanceMethod yX0_heatInRow ∈ lw_T := lw_T_mem (List.mem_of_getElem? (i := 728) (by decide +kernel)) (by decide +kernel)
set_option maxRecDepth 100000 in
theorem cs_X0_heatInRow : Cond.selects yX0_heatInRow.cls yX0_heatInRow yX0_heatInRow ∈ lw_T := lw_T_mem (List.mem_of_getElem? (i := 729) (by decide +kernel)) (by decide +kernel)
set_option maxRecDepth 100000 in
theorem mw_X4_73 : Cond.methodLink RX4 73 yX0_heatInRow ∈ lw_T := lw_T_mem (List.mem_of_getElem? (i := 895) (by decide +kernel)) (by decide +kernel)
theorem ci_X4_73 : CI RX4 73 yX0_heatInRow cX0_heatInRow 2 (some .int) 1 := ⟨mw_X4_73, cx_X0_heatInRow, cw_X0_heatInRow, by decide, by decide, by decide +kernel⟩
set_option maxRecDepth 100000 in
theorem cw_X0_weightInRow : Cond.code yX0_weightInRow cX0_weightInRow 2 (some .int) ∈ lw_T := lw_T_mem (List.mem_of_getElem? (i := 722) (by decide +kernel)) (by decide +kernel)
set_option maxRecDepth 100000 in
theorem cx_X0_weightInRow : Cond.initialized yX0_weightInRow.cls ∈ lw_T := lw_T_mem (List.mem_of_getElem? (i := 32) (by decide +kernel)) (by decide +kernel)
set_option maxRecDepth 100000 in
theorem ct_X0_weightInRow : Cond.instanceMethod yX0_weightInRow ∈ lw_T := lw_T_mem (List.mem_of_getElem? (i := 720) (by decide +kernel)) (by decide +kernel)
set_option maxRecDepth 100000 in
theorem cs_X0_weightInRow : Cond.selects yX0_weightInRow.cls yX0_weightInRow yX0_weightInRow ∈ lw_T := lw_T_mem (List.mem_of_getElem? (i := 721) (by decide +kernel)) (by decide +kernel)
set_option maxRecDepth 100000 in
theorem mw_X4_77 : Cond.methodLink RX4 77 yX0_weightInRow ∈ lw_T := lw_T_mem (List.mem_of_getElem? (i := 896) (by decide +kernel)) (by decide +kernel)
theorem ci_X4_77 : CI RX4 77 yX0_weightInRow cX0_weightInRow 2 (some .int) 1 := ⟨mw_X4_77, cx_X0_weightInRow, cw_X0_weightInRow, by decide, by decide, by decide +kernel⟩
set_option maxRecDepth 100000 in
theorem fw_X4_82 : Cond.fieldLink RX4 82 "RackPlanner$Site" "rowHeat" "[I" ∈ lw_T := lw_T_mem (List.mem_of_getElem? (i := 100) (by decide +kernel)) (by decide +kernel)
theorem fd_X4_82_6 : FD RX4 82 6 1 := ⟨RX3, TX3, 4, "RackPlanner$Site", rfl, in_X3, by decide, fw_X4_82, (fun s args x _ h => h)⟩
set_option maxRecDepth 100000 in
theorem fw_X4_86 : Cond.fieldLink RX4 86 "RackPlanner$Site" "rowWeight" "[I" ∈ lw_T := lw_T_mem (List.mem_of_getElem? (i := 103) (by decide +kernel)) (by decide +kernel)
theorem fd_X4_86_6 : FD RX4 86 6 2 := ⟨RX3, TX3, 4, "RackPlanner$Site", rfl, in_X3, by decide, fw_X4_86, (fun s args x _ h => h)⟩
set_option maxRecDepth 100000 in
theorem cw_X4_requireFeed : Cond.code yX4_requireFeed cX4_requireFeed 1 none ∈ lw_T := lw_T_mem (List.mem_of_getElem? (i := 355) (by decide +kernel)) (by decide +kernel)
set_option maxRecDepth 100000 in
theorem cx_X4_requireFeed : Cond.initialized yX4_requireFeed.cls ∈ lw_T := lw_T_mem (List.mem_of_getElem? (i := 26) (by decide +kernel)) (by decide +kernel)
set_option maxRecDepth 100000 in
theorem ct_X4_requireFeed : Cond.static yX4_requireFeed ∈ lw_T := lw_T_mem (List.mem_of_getElem? (i := 354) (by decide +kernel)) (by decide +kernel)
set_option maxRecDepth 100000 in
theorem mw_X4_89 : Cond.methodLink RX4 89 yX4_requireFeed ∈ lw_T := lw_T_mem (List.mem_of_getElem? (i := 353) (by decide +kernel)) (by decide +kernel)
theorem ci_X4_89 : CI RX4 89 yX4_requireFeed cX4_requireFeed 1 none 1 := ⟨mw_X4_89, cx_X4_requireFeed, cw_X4_requireFeed, by decide, by decide, by decide +kernel⟩
set_option maxRecDepth 100000 in
theorem cw_X0_worstOnFeed : Cond.code yX0_worstOnFeed cX0_worstOnFeed 4 (some .int) ∈ lw_T := lw_T_mem (List.mem_of_getElem? (i := 738) (by decide +kernel)) (by decide +kernel)
set_option maxRecDepth 100000 in
theorem cx_X0_worstOnFeed : Cond.initialized yX0_worstOnFeed.cls ∈ lw_T := lw_T_mem (List.mem_of_getElem? (i := 32) (by decide +kernel)) (by decide +kernel)
set_option maxRecDepth 100000 in
theorem ct_X0_worstOnFeed : Cond.instanceMethod yX0_worstOnFeed ∈ lw_T := lw_T_mem (List.mem_of_getElem? (i := 736) (by decide +kernel)) (by decide +kernel)
set_option maxRecDepth 100000 in
theorem cs_X0_worstOnFeed : Cond.selects yX0_worstOnFeed.cls yX0_worstOnFeed yX0_worstOnFeed ∈ lw_T := lw_T_mem (List.mem_of_getElem? (i := 737) (by decide +kernel)) (by decide +kernel)
set_option maxRecDepth 100000 in
theorem mw_X4_93 : Cond.methodLink RX4 93 yX0_worstOnFeed ∈ lw_T := lw_T_mem (List.mem_of_getElem? (i := 886) (by decide +kernel)) (by decide +kernel)
theorem ci_X4_93 : CI RX4 93 yX0_worstOnFeed cX0_worstOnFeed 4 (some .int) 1 := ⟨mw_X4_93, cx_X0_worstOnFeed, cw_X0_worstOnFeed, by decide, by decide, by decide +kernel⟩
set_option maxRecDepth 100000 in
theorem fw_X4_98 : Cond.fieldLink RX4 98 "RackPlanner$Site" "feedPower" "[I" ∈ lw_T := lw_T_mem (List.mem_of_getElem? (i := 106) (by decide +kernel)) (by decide +kernel)
theorem fd_X4_98_6 : FD RX4 98 6 3 := ⟨RX3, TX3, 4, "RackPlanner$Site", rfl, in_X3, by decide, fw_X4_98, (fun s args x _ h => h)⟩
set_option maxRecDepth 100000 in
theorem cw_Jx4a65c_get_915e3 : Cond.code yJx4a65c_get_915e3 cJx4a65c_get_915e3 2 (some (.object "java/lang/Object")) ∈ lw_T := lw_T_mem (List.mem_of_getElem? (i := 359) (by decide +kernel)) (by decide +kernel)
set_option maxRecDepth 100000 in
theorem cx_Jx4a65c_get_915e3 : Cond.initialized yJx4a65c_get_915e3.cls ∈ lw_T := lw_T_mem (List.mem_of_getElem? (i := 30) (by decide +kernel)) (by decide +kernel)
set_option maxRecDepth 100000 in
theorem ct_Jx4a65c_get_915e3 : Cond.instanceMethod yJx4a65c_get_915e3 ∈ lw_T := lw_T_mem (List.mem_of_getElem? (i := 357) (by decide +kernel)) (by decide +kernel)
set_option maxRecDepth 100000 in
theorem cs_Jx4a65c_get_915e3 : Cond.selects yJx4a65c_get_915e3.cls yJx4a65c_get_915e3 yJx4a65c_get_915e3 ∈ lw_T := lw_T_mem (List.mem_of_getElem? (i := 358) (by decide +kernel)) (by decide +kernel)
set_option maxRecDepth 100000 in
theorem mw_X4_101 : Cond.methodLink RX4 101 yJx4a65c_get_915e3 ∈ lw_T := lw_T_mem (List.mem_of_getElem? (i := 356) (by decide +kernel)) (by decide +kernel)
theorem ci_X4_101 : CI RX4 101 yJx4a65c_get_915e3 cJx4a65c_get_915e3 2 (some (.object "java/lang/Object")) 1 := ⟨mw_X4_101, cx_Jx4a65c_get_915e3, cw_Jx4a65c_get_915e3, by decide, by decide, by decide +kernel⟩
set_option maxRecDepth 100000 in
theorem tk_X4_105 : Cond.classLink RX4 105 "RackPlanner$Machine" ∈ lw_T := lw_T_mem (List.mem_of_getElem? (i := 370) (by decide +kernel)) (by decide +kernel)
set_option maxRecDepth 100000 in
theorem iw_X4_105 : Cond.instantiable RX1 7 ∈ lw_T := lw_T_mem (List.mem_of_getElem? (i := 812) (by decide +kernel)) (by decide +kernel)
set_option maxRecDepth 100000 in
theorem ix_X4_105 : Cond.initialized RX1 ∈ lw_T := lw_T_mem (List.mem_of_getElem? (i := 41) (by decide +kernel)) (by decide +kernel)
theorem fn_X4_105 : FN RX4 105 4 7 [.int 0, .int 0, .int 0, .int 0, .int 0, .int 0, .int 0] := ⟨RX1, TX1, tyX1, rfl, in_X1, tyX1_ok, tk_X4_105, iw_X4_105, ix_X4_105, by intro j hj; rcases (show j = 0 ∨ j = 1 ∨ j = 2 ∨ j = 3 ∨ j = 4 ∨ j = 5 ∨ j = 6 by omega) with rfl | rfl | rfl | rfl | rfl | rfl | rfl <;> rfl⟩
set_option maxRecDepth 100000 in
theorem cw_X4_hasNoFeed : Cond.code yX4_hasNoFeed cX4_hasNoFeed 3 (some .boolean) ∈ lw_T := lw_T_mem (List.mem_of_getElem? (i := 374) (by decide +kernel)) (by decide +kernel)
set_option maxRecDepth 100000 in
theorem cx_X4_hasNoFeed : Cond.initialized yX4_hasNoFeed.cls ∈ lw_T := lw_T_mem (List.mem_of_getElem? (i := 26) (by decide +kernel)) (by decide +kernel)
set_option maxRecDepth 100000 in
theorem ct_X4_hasNoFeed : Cond.instanceMethod yX4_hasNoFeed ∈ lw_T := lw_T_mem (List.mem_of_getElem? (i := 373) (by decide +kernel)) (by decide +kernel)
set_option maxRecDepth 100000 in
theorem cs_X4_hasNoFeed : Cond.selects yX4_hasNoFeed.cls yX4_hasNoFeed yX4_hasNoFeed ∈ lw_T := lw_T_mem (List.mem_of_getElem? (i := 4) (by decide +kernel)) (by decide +kernel)
set_option maxRecDepth 100000 in
theorem mw_X4_107 : Cond.methodLink RX4 107 yX4_hasNoFeed ∈ lw_T := lw_T_mem (List.mem_of_getElem? (i := 371) (by decide +kernel)) (by decide +kernel)
theorem ci_X4_107 : CI RX4 107 yX4_hasNoFeed cX4_hasNoFeed 3 (some .boolean) 1 := ⟨mw_X4_107, cx_X4_hasNoFeed, cw_X4_hasNoFeed, by decide, by decide, by decide +kernel⟩
set_option maxRecDepth 100000 in
theorem cw_X4_newMachine : Cond.code yX4_newMachine cX4_newMachine 5 (some (.object "RackPlanner$Machine")) ∈ lw_T := lw_T_mem (List.mem_of_getElem? (i := 811) (by decide +kernel)) (by decide +kernel)
set_option maxRecDepth 100000 in
theorem cx_X4_newMachine : Cond.initialized yX4_newMachine.cls ∈ lw_T := lw_T_mem (List.mem_of_getElem? (i := 26) (by decide +kernel)) (by decide +kernel)
set_option maxRecDepth 100000 in
theorem ct_X4_newMachine : Cond.instanceMethod yX4_newMachine ∈ lw_T := lw_T_mem (List.mem_of_getElem? (i := 810) (by decide +kernel)) (by decide +kernel)
set_option maxRecDepth 100000 in
theorem cs_X4_newMachine : Cond.selects yX4_newMachine.cls yX4_newMachine yX4_newMachine ∈ lw_T := lw_T_mem (List.mem_of_getElem? (i := 20) (by decide +kernel)) (by decide +kernel)
set_option maxRecDepth 100000 in
theorem mw_X4_111 : Cond.methodLink RX4 111 yX4_newMachine ∈ lw_T := lw_T_mem (List.mem_of_getElem? (i := 808) (by decide +kernel)) (by decide +kernel)
theorem ci_X4_111 : CI RX4 111 yX4_newMachine cX4_newMachine 5 (some (.object "RackPlanner$Machine")) 4 := ⟨mw_X4_111, cx_X4_newMachine, cw_X4_newMachine, by decide, by decide, by decide +kernel⟩
set_option maxRecDepth 100000 in
theorem cw_X0_firstFit : Cond.code yX0_firstFit cX0_firstFit 4 (some .int) ∈ lw_T := lw_T_mem (List.mem_of_getElem? (i := 707) (by decide +kernel)) (by decide +kernel)
set_option maxRecDepth 100000 in
theorem cx_X0_firstFit : Cond.initialized yX0_firstFit.cls ∈ lw_T := lw_T_mem (List.mem_of_getElem? (i := 32) (by decide +kernel)) (by decide +kernel)
set_option maxRecDepth 100000 in
theorem ct_X0_firstFit : Cond.instanceMethod yX0_firstFit ∈ lw_T := lw_T_mem (List.mem_of_getElem? (i := 705) (by decide +kernel)) (by decide +kernel)
set_option maxRecDepth 100000 in
theorem cs_X0_firstFit : Cond.selects yX0_firstFit.cls yX0_firstFit yX0_firstFit ∈ lw_T := lw_T_mem (List.mem_of_getElem? (i := 706) (by decide +kernel)) (by decide +kernel)
set_option maxRecDepth 100000 in
theorem mw_X4_117 : Cond.methodLink RX4 117 yX0_firstFit ∈ lw_T := lw_T_mem (List.mem_of_getElem? (i := 704) (by decide +kernel)) (by decide +kernel)
theorem ci_X4_117 : CI RX4 117 yX0_firstFit cX0_firstFit 4 (some .int) 1 := ⟨mw_X4_117, cx_X0_firstFit, cw_X0_firstFit, by decide, by decide, by decide +kernel⟩
set_option maxRecDepth 100000 in
theorem fw_X4_123 : Cond.fieldLink RX4 123 "RackPlanner$Machine" "cell" "I" ∈ lw_T := lw_T_mem (List.mem_of_getElem? (i := 833) (by decide +kernel)) (by decide +kernel)
theorem fd_X4_123_4 : FD RX4 123 4 5 := ⟨RX1, TX1, 7, "RackPlanner$Machine", rfl, in_X1, by decide, fw_X4_123, (fun s args x _ h => h)⟩
theorem fp_X4_123_4 : FP RX4 123 4 5 .int false := ⟨RX1, TX1, 7, "RackPlanner$Machine", tyX1, ⟨rfl, in_X1, by decide, fw_X4_123, (fun s args x _ h => h)⟩, tyX1_ok, nmX1, by decide +kernel, rfl, fun h => by cases h⟩
set_option maxRecDepth 100000 in
theorem cw_X0_put : Cond.code yX0_put cX0_put 3 none ∈ lw_T := lw_T_mem (List.mem_of_getElem? (i := 749) (by decide +kernel)) (by decide +kernel)
set_option maxRecDepth 100000 in
theorem cx_X0_put : Cond.initialized yX0_put.cls ∈ lw_T := lw_T_mem (List.mem_of_getElem? (i := 32) (by decide +kernel)) (by decide +kernel)
set_option maxRecDepth 100000 in
theorem ct_X0_put : Cond.instanceMethod yX0_put ∈ lw_T := lw_T_mem (List.mem_of_getElem? (i := 747) (by decide +kernel)) (by decide +kernel)
set_option maxRecDepth 100000 in
theorem cs_X0_put : Cond.selects yX0_put.cls yX0_put yX0_put ∈ lw_T := lw_T_mem (List.mem_of_getElem? (i := 748) (by decide +kernel)) (by decide +kernel)
set_option maxRecDepth 100000 in
theorem mw_X4_126 : Cond.methodLink RX4 126 yX0_put ∈ lw_T := lw_T_mem (List.mem_of_getElem? (i := 746) (by decide +kernel)) (by decide +kernel)
theorem ci_X4_126 : CI RX4 126 yX0_put cX0_put 3 none 2 := ⟨mw_X4_126, cx_X0_put, cw_X0_put, by decide, by decide, by decide +kernel⟩
set_option maxRecDepth 100000 in
theorem fw_X4_130 : Cond.fieldLink RX4 130 "RackPlanner$Machine" "number" "I" ∈ lw_T := lw_T_mem (List.mem_of_getElem? (i := 819) (by decide +kernel)) (by decide +kernel)
theorem fd_X4_130_4 : FD RX4 130 4 0 := ⟨RX1, TX1, 7, "RackPlanner$Machine", rfl, in_X1, by decide, fw_X4_130, (fun s args x _ h => h)⟩
set_option maxRecDepth 100000 in
theorem cw_X4_indexOfPlaced : Cond.code yX4_indexOfPlaced cX4_indexOfPlaced 3 (some .int) ∈ lw_T := lw_T_mem (List.mem_of_getElem? (i := 397) (by decide +kernel)) (by decide +kernel)
set_option maxRecDepth 100000 in
theorem cx_X4_indexOfPlaced : Cond.initialized yX4_indexOfPlaced.cls ∈ lw_T := lw_T_mem (List.mem_of_getElem? (i := 26) (by decide +kernel)) (by decide +kernel)
set_option maxRecDepth 100000 in
theorem ct_X4_indexOfPlaced : Cond.instanceMethod yX4_indexOfPlaced ∈ lw_T := lw_T_mem (List.mem_of_getElem? (i := 396) (by decide +kernel)) (by decide +kernel)
set_option maxRecDepth 100000 in
theorem cs_X4_indexOfPlaced : Cond.selects yX4_indexOfPlaced.cls yX4_indexOfPlaced yX4_indexOfPlaced ∈ lw_T := lw_T_mem (List.mem_of_getElem? (i := 5) (by decide +kernel)) (by decide +kernel)
set_option maxRecDepth 100000 in
theorem mw_X4_133 : Cond.methodLink RX4 133 yX4_indexOfPlaced ∈ lw_T := lw_T_mem (List.mem_of_getElem? (i := 394) (by decide +kernel)) (by decide +kernel)
theorem ci_X4_133 : CI RX4 133 yX4_indexOfPlaced cX4_indexOfPlaced 3 (some .int) 1 := ⟨mw_X4_133, cx_X4_indexOfPlaced, cw_X4_indexOfPlaced, by decide, by decide, by decide +kernel⟩
set_option maxRecDepth 100000 in
theorem cw_X0_clear : Cond.code yX0_clear cX0_clear 2 none ∈ lw_T := lw_T_mem (List.mem_of_getElem? (i := 417) (by decide +kernel)) (by decide +kernel)
set_option maxRecDepth 100000 in
theorem cx_X0_clear : Cond.initialized yX0_clear.cls ∈ lw_T := lw_T_mem (List.mem_of_getElem? (i := 32) (by decide +kernel)) (by decide +kernel)
set_option maxRecDepth 100000 in
theorem ct_X0_clear : Cond.instanceMethod yX0_clear ∈ lw_T := lw_T_mem (List.mem_of_getElem? (i := 415) (by decide +kernel)) (by decide +kernel)
set_option maxRecDepth 100000 in
theorem cs_X0_clear : Cond.selects yX0_clear.cls yX0_clear yX0_clear ∈ lw_T := lw_T_mem (List.mem_of_getElem? (i := 416) (by decide +kernel)) (by decide +kernel)
set_option maxRecDepth 100000 in
theorem mw_X4_136 : Cond.methodLink RX4 136 yX0_clear ∈ lw_T := lw_T_mem (List.mem_of_getElem? (i := 414) (by decide +kernel)) (by decide +kernel)
theorem ci_X4_136 : CI RX4 136 yX0_clear cX0_clear 2 none 1 := ⟨mw_X4_136, cx_X0_clear, cw_X0_clear, by decide, by decide, by decide +kernel⟩
set_option maxRecDepth 100000 in
theorem cw_Jx4a65c_remove_915e3 : Cond.code yJx4a65c_remove_915e3 cJx4a65c_remove_915e3 4 (some (.object "java/lang/Object")) ∈ lw_T := lw_T_mem (List.mem_of_getElem? (i := 440) (by decide +kernel)) (by decide +kernel)
set_option maxRecDepth 100000 in
theorem cx_Jx4a65c_remove_915e3 : Cond.initialized yJx4a65c_remove_915e3.cls ∈ lw_T := lw_T_mem (List.mem_of_getElem? (i := 30) (by decide +kernel)) (by decide +kernel)
set_option maxRecDepth 100000 in
theorem ct_Jx4a65c_remove_915e3 : Cond.instanceMethod yJx4a65c_remove_915e3 ∈ lw_T := lw_T_mem (List.mem_of_getElem? (i := 438) (by decide +kernel)) (by decide +kernel)
set_option maxRecDepth 100000 in
theorem cs_Jx4a65c_remove_915e3 : Cond.selects yJx4a65c_remove_915e3.cls yJx4a65c_remove_915e3 yJx4a65c_remove_915e3 ∈ lw_T := lw_T_mem (List.mem_of_getElem? (i := 439) (by decide +kernel)) (by decide +kernel)
set_option maxRecDepth 100000 in
theorem mw_X4_140 : Cond.methodLink RX4 140 yJx4a65c_remove_915e3 ∈ lw_T := lw_T_mem (List.mem_of_getElem? (i := 437) (by decide +kernel)) (by decide +kernel)
theorem ci_X4_140 : CI RX4 140 yJx4a65c_remove_915e3 cJx4a65c_remove_915e3 4 (some (.object "java/lang/Object")) 1 := ⟨mw_X4_140, cx_Jx4a65c_remove_915e3, cw_Jx4a65c_remove_915e3, by decide, by decide, by decide +kernel⟩
set_option maxRecDepth 100000 in
theorem cw_X4_rackOfCell : Cond.code yX4_rackOfCell cX4_rackOfCell 1 (some .int) ∈ lw_T := lw_T_mem (List.mem_of_getElem? (i := 424) (by decide +kernel)) (by decide +kernel)
set_option maxRecDepth 100000 in
theorem cx_X4_rackOfCell : Cond.initialized yX4_rackOfCell.cls ∈ lw_T := lw_T_mem (List.mem_of_getElem? (i := 26) (by decide +kernel)) (by decide +kernel)
set_option maxRecDepth 100000 in
theorem ct_X4_rackOfCell : Cond.static yX4_rackOfCell ∈ lw_T := lw_T_mem (List.mem_of_getElem? (i := 423) (by decide +kernel)) (by decide +kernel)
set_option maxRecDepth 100000 in
theorem mw_X4_143 : Cond.methodLink RX4 143 yX4_rackOfCell ∈ lw_T := lw_T_mem (List.mem_of_getElem? (i := 446) (by decide +kernel)) (by decide +kernel)
theorem ci_X4_143 : CI RX4 143 yX4_rackOfCell cX4_rackOfCell 1 (some .int) 1 := ⟨mw_X4_143, cx_X4_rackOfCell, cw_X4_rackOfCell, by decide, by decide, by decide +kernel⟩
set_option maxRecDepth 100000 in
theorem cw_X4_requireMachine : Cond.code yX4_requireMachine cX4_requireMachine 2 (some (.object "RackPlanner$Machine")) ∈ lw_T := lw_T_mem (List.mem_of_getElem? (i := 769) (by decide +kernel)) (by decide +kernel)
set_option maxRecDepth 100000 in
theorem cx_X4_requireMachine : Cond.initialized yX4_requireMachine.cls ∈ lw_T := lw_T_mem (List.mem_of_getElem? (i := 26) (by decide +kernel)) (by decide +kernel)
set_option maxRecDepth 100000 in
theorem ct_X4_requireMachine : Cond.instanceMethod yX4_requireMachine ∈ lw_T := lw_T_mem (List.mem_of_getElem? (i := 768) (by decide +kernel)) (by decide +kernel)
set_option maxRecDepth 100000 in
theorem cs_X4_requireMachine : Cond.selects yX4_requireMachine.cls yX4_requireMachine yX4_requireMachine ∈ lw_T := lw_T_mem (List.mem_of_getElem? (i := 18) (by decide +kernel)) (by decide +kernel)
set_option maxRecDepth 100000 in
theorem mw_X4_146 : Cond.methodLink RX4 146 yX4_requireMachine ∈ lw_T := lw_T_mem (List.mem_of_getElem? (i := 766) (by decide +kernel)) (by decide +kernel)
theorem ci_X4_146 : CI RX4 146 yX4_requireMachine cX4_requireMachine 2 (some (.object "RackPlanner$Machine")) 1 := ⟨mw_X4_146, cx_X4_requireMachine, cw_X4_requireMachine, by decide, by decide, by decide +kernel⟩
set_option maxRecDepth 100000 in
theorem cw_X0_bearsCords : Cond.code yX0_bearsCords cX0_bearsCords 4 (some .boolean) ∈ lw_T := lw_T_mem (List.mem_of_getElem? (i := 872) (by decide +kernel)) (by decide +kernel)
set_option maxRecDepth 100000 in
theorem cx_X0_bearsCords : Cond.initialized yX0_bearsCords.cls ∈ lw_T := lw_T_mem (List.mem_of_getElem? (i := 32) (by decide +kernel)) (by decide +kernel)
set_option maxRecDepth 100000 in
theorem ct_X0_bearsCords : Cond.instanceMethod yX0_bearsCords ∈ lw_T := lw_T_mem (List.mem_of_getElem? (i := 870) (by decide +kernel)) (by decide +kernel)
set_option maxRecDepth 100000 in
theorem cs_X0_bearsCords : Cond.selects yX0_bearsCords.cls yX0_bearsCords yX0_bearsCords ∈ lw_T := lw_T_mem (List.mem_of_getElem? (i := 871) (by decide +kernel)) (by decide +kernel)
set_option maxRecDepth 100000 in
theorem mw_X4_150 : Cond.methodLink RX4 150 yX0_bearsCords ∈ lw_T := lw_T_mem (List.mem_of_getElem? (i := 869) (by decide +kernel)) (by decide +kernel)
theorem ci_X4_150 : CI RX4 150 yX0_bearsCords cX0_bearsCords 4 (some .boolean) 2 := ⟨mw_X4_150, cx_X0_bearsCords, cw_X0_bearsCords, by decide, by decide, by decide +kernel⟩
set_option maxRecDepth 100000 in
theorem fw_X4_156 : Cond.fieldLink RX4 156 "RackPlanner$Machine" "cords" "I" ∈ lw_T := lw_T_mem (List.mem_of_getElem? (i := 830) (by decide +kernel)) (by decide +kernel)
theorem fd_X4_156_4 : FD RX4 156 4 4 := ⟨RX1, TX1, 7, "RackPlanner$Machine", rfl, in_X1, by decide, fw_X4_156, (fun s args x _ h => h)⟩
theorem fp_X4_156_4 : FP RX4 156 4 4 .int false := ⟨RX1, TX1, 7, "RackPlanner$Machine", tyX1, ⟨rfl, in_X1, by decide, fw_X4_156, (fun s args x _ h => h)⟩, tyX1_ok, nmX1, by decide +kernel, rfl, fun h => by cases h⟩
set_option maxRecDepth 100000 in
theorem cw_X0_changeCords : Cond.code yX0_changeCords cX0_changeCords 5 none ∈ lw_T := lw_T_mem (List.mem_of_getElem? (i := 878) (by decide +kernel)) (by decide +kernel)
set_option maxRecDepth 100000 in
theorem cx_X0_changeCords : Cond.initialized yX0_changeCords.cls ∈ lw_T := lw_T_mem (List.mem_of_getElem? (i := 32) (by decide +kernel)) (by decide +kernel)
set_option maxRecDepth 100000 in
theorem ct_X0_changeCords : Cond.instanceMethod yX0_changeCords ∈ lw_T := lw_T_mem (List.mem_of_getElem? (i := 876) (by decide +kernel)) (by decide +kernel)
set_option maxRecDepth 100000 in
theorem cs_X0_changeCords : Cond.selects yX0_changeCords.cls yX0_changeCords yX0_changeCords ∈ lw_T := lw_T_mem (List.mem_of_getElem? (i := 877) (by decide +kernel)) (by decide +kernel)
set_option maxRecDepth 100000 in
theorem mw_X4_159 : Cond.methodLink RX4 159 yX0_changeCords ∈ lw_T := lw_T_mem (List.mem_of_getElem? (i := 875) (by decide +kernel)) (by decide +kernel)
theorem ci_X4_159 : CI RX4 159 yX0_changeCords cX0_changeCords 5 none 2 := ⟨mw_X4_159, cx_X0_changeCords, cw_X0_changeCords, by decide, by decide, by decide +kernel⟩
set_option maxRecDepth 100000 in
theorem cw_X4_listForPacking : Cond.code yX4_listForPacking cX4_listForPacking 4 none ∈ lw_T := lw_T_mem (List.mem_of_getElem? (i := 454) (by decide +kernel)) (by decide +kernel)
set_option maxRecDepth 100000 in
theorem cx_X4_listForPacking : Cond.initialized yX4_listForPacking.cls ∈ lw_T := lw_T_mem (List.mem_of_getElem? (i := 26) (by decide +kernel)) (by decide +kernel)
set_option maxRecDepth 100000 in
theorem ct_X4_listForPacking : Cond.instanceMethod yX4_listForPacking ∈ lw_T := lw_T_mem (List.mem_of_getElem? (i := 453) (by decide +kernel)) (by decide +kernel)
set_option maxRecDepth 100000 in
theorem cs_X4_listForPacking : Cond.selects yX4_listForPacking.cls yX4_listForPacking yX4_listForPacking ∈ lw_T := lw_T_mem (List.mem_of_getElem? (i := 9) (by decide +kernel)) (by decide +kernel)
set_option maxRecDepth 100000 in
theorem mw_X4_162 : Cond.methodLink RX4 162 yX4_listForPacking ∈ lw_T := lw_T_mem (List.mem_of_getElem? (i := 451) (by decide +kernel)) (by decide +kernel)
theorem ci_X4_162 : CI RX4 162 yX4_listForPacking cX4_listForPacking 4 none 0 := ⟨mw_X4_162, cx_X4_listForPacking, cw_X4_listForPacking, by decide, by decide, by decide +kernel⟩
set_option maxRecDepth 100000 in
theorem cw_X0_clearAll : Cond.code yX0_clearAll cX0_clearAll 2 none ∈ lw_T := lw_T_mem (List.mem_of_getElem? (i := 703) (by decide +kernel)) (by decide +kernel)
set_option maxRecDepth 100000 in
theorem cx_X0_clearAll : Cond.initialized yX0_clearAll.cls ∈ lw_T := lw_T_mem (List.mem_of_getElem? (i := 32) (by decide +kernel)) (by decide +kernel)
set_option maxRecDepth 100000 in
theorem ct_X0_clearAll : Cond.instanceMethod yX0_clearAll ∈ lw_T := lw_T_mem (List.mem_of_getElem? (i := 701) (by decide +kernel)) (by decide +kernel)
set_option maxRecDepth 100000 in
theorem cs_X0_clearAll : Cond.selects yX0_clearAll.cls yX0_clearAll yX0_clearAll ∈ lw_T := lw_T_mem (List.mem_of_getElem? (i := 702) (by decide +kernel)) (by decide +kernel)
set_option maxRecDepth 100000 in
theorem mw_X4_165 : Cond.methodLink RX4 165 yX0_clearAll ∈ lw_T := lw_T_mem (List.mem_of_getElem? (i := 700) (by decide +kernel)) (by decide +kernel)
theorem ci_X4_165 : CI RX4 165 yX0_clearAll cX0_clearAll 2 none 0 := ⟨mw_X4_165, cx_X0_clearAll, cw_X0_clearAll, by decide, by decide, by decide +kernel⟩
set_option maxRecDepth 100000 in
theorem fw_X4_168 : Cond.fieldLink RX4 168 "RackPlanner$Machine" "packedCell" "I" ∈ lw_T := lw_T_mem (List.mem_of_getElem? (i := 835) (by decide +kernel)) (by decide +kernel)
theorem fd_X4_168_4 : FD RX4 168 4 6 := ⟨RX1, TX1, 7, "RackPlanner$Machine", rfl, in_X1, by decide, fw_X4_168, (fun s args x _ h => h)⟩
theorem fp_X4_168_4 : FP RX4 168 4 6 .int false := ⟨RX1, TX1, 7, "RackPlanner$Machine", tyX1, ⟨rfl, in_X1, by decide, fw_X4_168, (fun s args x _ h => h)⟩, tyX1_ok, nmX1, by decide +kernel, rfl, fun h => by cases h⟩
set_option maxRecDepth 100000 in
theorem cw_X4_swapLayouts : Cond.code yX4_swapLayouts cX4_swapLayouts 2 none ∈ lw_T := lw_T_mem (List.mem_of_getElem? (i := 753) (by decide +kernel)) (by decide +kernel)
set_option maxRecDepth 100000 in
theorem cx_X4_swapLayouts : Cond.initialized yX4_swapLayouts.cls ∈ lw_T := lw_T_mem (List.mem_of_getElem? (i := 26) (by decide +kernel)) (by decide +kernel)
set_option maxRecDepth 100000 in
theorem ct_X4_swapLayouts : Cond.instanceMethod yX4_swapLayouts ∈ lw_T := lw_T_mem (List.mem_of_getElem? (i := 752) (by decide +kernel)) (by decide +kernel)
set_option maxRecDepth 100000 in
theorem cs_X4_swapLayouts : Cond.selects yX4_swapLayouts.cls yX4_swapLayouts yX4_swapLayouts ∈ lw_T := lw_T_mem (List.mem_of_getElem? (i := 16) (by decide +kernel)) (by decide +kernel)
set_option maxRecDepth 100000 in
theorem mw_X4_171 : Cond.methodLink RX4 171 yX4_swapLayouts ∈ lw_T := lw_T_mem (List.mem_of_getElem? (i := 750) (by decide +kernel)) (by decide +kernel)
theorem ci_X4_171 : CI RX4 171 yX4_swapLayouts cX4_swapLayouts 2 none 0 := ⟨mw_X4_171, cx_X4_swapLayouts, cw_X4_swapLayouts, by decide, by decide, by decide +kernel⟩
set_option maxRecDepth 100000 in
theorem cw_X4_moveToPacked : Cond.code yX4_moveToPacked cX4_moveToPacked 4 (some .int) ∈ lw_T := lw_T_mem (List.mem_of_getElem? (i := 757) (by decide +kernel)) (by decide +kernel)
set_option maxRecDepth 100000 in
theorem cx_X4_moveToPacked : Cond.initialized yX4_moveToPacked.cls ∈ lw_T := lw_T_mem (List.mem_of_getElem? (i := 26) (by decide +kernel)) (by decide +kernel)
set_option maxRecDepth 100000 in
theorem ct_X4_moveToPacked : Cond.instanceMethod yX4_moveToPacked ∈ lw_T := lw_T_mem (List.mem_of_getElem? (i := 756) (by decide +kernel)) (by decide +kernel)
set_option maxRecDepth 100000 in
theorem cs_X4_moveToPacked : Cond.selects yX4_moveToPacked.cls yX4_moveToPacked yX4_moveToPacked ∈ lw_T := lw_T_mem (List.mem_of_getElem? (i := 17) (by decide +kernel)) (by decide +kernel)
set_option maxRecDepth 100000 in
theorem mw_X4_174 : Cond.methodLink RX4 174 yX4_moveToPacked ∈ lw_T := lw_T_mem (List.mem_of_getElem? (i := 754) (by decide +kernel)) (by decide +kernel)
theorem ci_X4_174 : CI RX4 174 yX4_moveToPacked cX4_moveToPacked 4 (some .int) 0 := ⟨mw_X4_174, cx_X4_moveToPacked, cw_X4_moveToPacked, by decide, by decide, by decide +kernel⟩
set_option maxRecDepth 100000 in
theorem cw_X4_requireRack : Cond.code yX4_requireRack cX4_requireRack 2 (some (.object "RackPlanner$Rack")) ∈ lw_T := lw_T_mem (List.mem_of_getElem? (i := 789) (by decide +kernel)) (by decide +kernel)
set_option maxRecDepth 100000 in
theorem cx_X4_requireRack : Cond.initialized yX4_requireRack.cls ∈ lw_T := lw_T_mem (List.mem_of_getElem? (i := 26) (by decide +kernel)) (by decide +kernel)
set_option maxRecDepth 100000 in
theorem ct_X4_requireRack : Cond.instanceMethod yX4_requireRack ∈ lw_T := lw_T_mem (List.mem_of_getElem? (i := 788) (by decide +kernel)) (by decide +kernel)
set_option maxRecDepth 100000 in
theorem cs_X4_requireRack : Cond.selects yX4_requireRack.cls yX4_requireRack yX4_requireRack ∈ lw_T := lw_T_mem (List.mem_of_getElem? (i := 19) (by decide +kernel)) (by decide +kernel)
set_option maxRecDepth 100000 in
theorem mw_X4_177 : Cond.methodLink RX4 177 yX4_requireRack ∈ lw_T := lw_T_mem (List.mem_of_getElem? (i := 786) (by decide +kernel)) (by decide +kernel)
theorem ci_X4_177 : CI RX4 177 yX4_requireRack cX4_requireRack 2 (some (.object "RackPlanner$Rack")) 1 := ⟨mw_X4_177, cx_X4_requireRack, cw_X4_requireRack, by decide, by decide, by decide +kernel⟩
set_option maxRecDepth 100000 in
theorem fw_X4_181 : Cond.fieldLink RX4 181 "RackPlanner$Rack" "slots" "I" ∈ lw_T := lw_T_mem (List.mem_of_getElem? (i := 276) (by decide +kernel)) (by decide +kernel)
theorem fd_X4_181_5 : FD RX4 181 5 1 := ⟨RX2, TX2, 4, "RackPlanner$Rack", rfl, in_X2, by decide, fw_X4_181, (fun s args x _ h => h)⟩
set_option maxRecDepth 100000 in
theorem tk_X4_184 : Cond.classLink RX4 184 "java/lang/IndexOutOfBoundsException" ∈ lw_T := lw_T_mem (List.mem_of_getElem? (i := 398) (by decide +kernel)) (by decide +kernel)
set_option maxRecDepth 100000 in
theorem fw_X4_189 : Cond.fieldLink RX4 189 "RackPlanner$Layout" "inCell" "[I" ∈ lw_T := lw_T_mem (List.mem_of_getElem? (i := 131) (by decide +kernel)) (by decide +kernel)
theorem fd_X4_189_3 : FD RX4 189 3 1 := ⟨RX0, TX0, 5, "RackPlanner$Layout", rfl, in_X0, by decide, fw_X4_189, (fun s args x _ h => h)⟩
set_option maxRecDepth 100000 in
theorem cw_X4_cellAt : Cond.code yX4_cellAt cX4_cellAt 2 (some .int) ∈ lw_T := lw_T_mem (List.mem_of_getElem? (i := 745) (by decide +kernel)) (by decide +kernel)
set_option maxRecDepth 100000 in
theorem cx_X4_cellAt : Cond.initialized yX4_cellAt.cls ∈ lw_T := lw_T_mem (List.mem_of_getElem? (i := 26) (by decide +kernel)) (by decide +kernel)
set_option maxRecDepth 100000 in
theorem ct_X4_cellAt : Cond.static yX4_cellAt ∈ lw_T := lw_T_mem (List.mem_of_getElem? (i := 744) (by decide +kernel)) (by decide +kernel)
set_option maxRecDepth 100000 in
theorem mw_X4_192 : Cond.methodLink RX4 192 yX4_cellAt ∈ lw_T := lw_T_mem (List.mem_of_getElem? (i := 914) (by decide +kernel)) (by decide +kernel)
theorem ci_X4_192 : CI RX4 192 yX4_cellAt cX4_cellAt 2 (some .int) 2 := ⟨mw_X4_192, cx_X4_cellAt, cw_X4_cellAt, by decide, by decide, by decide +kernel⟩
set_option maxRecDepth 100000 in
theorem cw_X0_firstFrom : Cond.code yX0_firstFrom cX0_firstFrom 3 (some .int) ∈ lw_T := lw_T_mem (List.mem_of_getElem? (i := 781) (by decide +kernel)) (by decide +kernel)
set_option maxRecDepth 100000 in
theorem cx_X0_firstFrom : Cond.initialized yX0_firstFrom.cls ∈ lw_T := lw_T_mem (List.mem_of_getElem? (i := 32) (by decide +kernel)) (by decide +kernel)
set_option maxRecDepth 100000 in
theorem ct_X0_firstFrom : Cond.instanceMethod yX0_firstFrom ∈ lw_T := lw_T_mem (List.mem_of_getElem? (i := 779) (by decide +kernel)) (by decide +kernel)
set_option maxRecDepth 100000 in
theorem cs_X0_firstFrom : Cond.selects yX0_firstFrom.cls yX0_firstFrom yX0_firstFrom ∈ lw_T := lw_T_mem (List.mem_of_getElem? (i := 780) (by decide +kernel)) (by decide +kernel)
set_option maxRecDepth 100000 in
theorem mw_X4_196 : Cond.methodLink RX4 196 yX0_firstFrom ∈ lw_T := lw_T_mem (List.mem_of_getElem? (i := 778) (by decide +kernel)) (by decide +kernel)
theorem ci_X4_196 : CI RX4 196 yX0_firstFrom cX0_firstFrom 3 (some .int) 1 := ⟨mw_X4_196, cx_X0_firstFrom, cw_X0_firstFrom, by decide, by decide, by decide +kernel⟩
set_option maxRecDepth 100000 in
theorem fw_X4_199 : Cond.fieldLink RX4 199 "RackPlanner$Machine" "slots" "I" ∈ lw_T := lw_T_mem (List.mem_of_getElem? (i := 822) (by decide +kernel)) (by decide +kernel)
theorem fd_X4_199_4 : FD RX4 199 4 1 := ⟨RX1, TX1, 7, "RackPlanner$Machine", rfl, in_X1, by decide, fw_X4_199, (fun s args x _ h => h)⟩
set_option maxRecDepth 100000 in
theorem cw_X4_powerNow : Cond.code yX4_powerNow cX4_powerNow 4 (some .int) ∈ lw_T := lw_T_mem (List.mem_of_getElem? (i := 925) (by decide +kernel)) (by decide +kernel)
set_option maxRecDepth 100000 in
theorem cx_X4_powerNow : Cond.initialized yX4_powerNow.cls ∈ lw_T := lw_T_mem (List.mem_of_getElem? (i := 26) (by decide +kernel)) (by decide +kernel)
set_option maxRecDepth 100000 in
theorem ct_X4_powerNow : Cond.instanceMethod yX4_powerNow ∈ lw_T := lw_T_mem (List.mem_of_getElem? (i := 924) (by decide +kernel)) (by decide +kernel)
set_option maxRecDepth 100000 in
theorem cs_X4_powerNow : Cond.selects yX4_powerNow.cls yX4_powerNow yX4_powerNow ∈ lw_T := lw_T_mem (List.mem_of_getElem? (i := 21) (by decide +kernel)) (by decide +kernel)
set_option maxRecDepth 100000 in
theorem mw_X4_200 : Cond.methodLink RX4 200 yX4_powerNow ∈ lw_T := lw_T_mem (List.mem_of_getElem? (i := 922) (by decide +kernel)) (by decide +kernel)
theorem ci_X4_200 : CI RX4 200 yX4_powerNow cX4_powerNow 4 (some .int) 2 := ⟨mw_X4_200, cx_X4_powerNow, cw_X4_powerNow, by decide, by decide, by decide +kernel⟩
set_option maxRecDepth 100000 in
theorem fw_X4_204 : Cond.fieldLink RX4 204 "RackPlanner$Layout" "worst" "[[I" ∈ lw_T := lw_T_mem (List.mem_of_getElem? (i := 136) (by decide +kernel)) (by decide +kernel)
theorem fd_X4_204_3 : FD RX4 204 3 4 := ⟨RX0, TX0, 5, "RackPlanner$Layout", rfl, in_X0, by decide, fw_X4_204, (fun s args x _ h => h)⟩
set_option maxRecDepth 100000 in
theorem fw_X4_208 : Cond.fieldLink RX4 208 "RackPlanner$Layout" "weight" "[I" ∈ lw_T := lw_T_mem (List.mem_of_getElem? (i := 133) (by decide +kernel)) (by decide +kernel)
theorem fd_X4_208_3 : FD RX4 208 3 2 := ⟨RX0, TX0, 5, "RackPlanner$Layout", rfl, in_X0, by decide, fw_X4_208, (fun s args x _ h => h)⟩
set_option maxRecDepth 100000 in
theorem cw_X4_rowOfMachine : Cond.code yX4_rowOfMachine cX4_rowOfMachine 2 (some .int) ∈ lw_T := lw_T_mem (List.mem_of_getElem? (i := 933) (by decide +kernel)) (by decide +kernel)
set_option maxRecDepth 100000 in
theorem cx_X4_rowOfMachine : Cond.initialized yX4_rowOfMachine.cls ∈ lw_T := lw_T_mem (List.mem_of_getElem? (i := 26) (by decide +kernel)) (by decide +kernel)
set_option maxRecDepth 100000 in
theorem ct_X4_rowOfMachine : Cond.instanceMethod yX4_rowOfMachine ∈ lw_T := lw_T_mem (List.mem_of_getElem? (i := 932) (by decide +kernel)) (by decide +kernel)
set_option maxRecDepth 100000 in
theorem cs_X4_rowOfMachine : Cond.selects yX4_rowOfMachine.cls yX4_rowOfMachine yX4_rowOfMachine ∈ lw_T := lw_T_mem (List.mem_of_getElem? (i := 22) (by decide +kernel)) (by decide +kernel)
set_option maxRecDepth 100000 in
theorem mw_X4_211 : Cond.methodLink RX4 211 yX4_rowOfMachine ∈ lw_T := lw_T_mem (List.mem_of_getElem? (i := 930) (by decide +kernel)) (by decide +kernel)
theorem ci_X4_211 : CI RX4 211 yX4_rowOfMachine cX4_rowOfMachine 2 (some .int) 1 := ⟨mw_X4_211, cx_X4_rowOfMachine, cw_X4_rowOfMachine, by decide, by decide, by decide +kernel⟩
set_option maxRecDepth 100000 in
theorem fw_X4_214 : Cond.fieldLink RX4 214 "RackPlanner$Machine" "power" "I" ∈ lw_T := lw_T_mem (List.mem_of_getElem? (i := 825) (by decide +kernel)) (by decide +kernel)
theorem fd_X4_214_4 : FD RX4 214 4 2 := ⟨RX1, TX1, 7, "RackPlanner$Machine", rfl, in_X1, by decide, fw_X4_214, (fun s args x _ h => h)⟩
set_option maxRecDepth 100000 in
theorem cw_X0_widestGap : Cond.code yX0_widestGap cX0_widestGap 5 (some .int) ∈ lw_T := lw_T_mem (List.mem_of_getElem? (i := 802) (by decide +kernel)) (by decide +kernel)
set_option maxRecDepth 100000 in
theorem cx_X0_widestGap : Cond.initialized yX0_widestGap.cls ∈ lw_T := lw_T_mem (List.mem_of_getElem? (i := 32) (by decide +kernel)) (by decide +kernel)
set_option maxRecDepth 100000 in
theorem ct_X0_widestGap : Cond.instanceMethod yX0_widestGap ∈ lw_T := lw_T_mem (List.mem_of_getElem? (i := 800) (by decide +kernel)) (by decide +kernel)
set_option maxRecDepth 100000 in
theorem cs_X0_widestGap : Cond.selects yX0_widestGap.cls yX0_widestGap yX0_widestGap ∈ lw_T := lw_T_mem (List.mem_of_getElem? (i := 801) (by decide +kernel)) (by decide +kernel)
set_option maxRecDepth 100000 in
theorem mw_X4_217 : Cond.methodLink RX4 217 yX0_widestGap ∈ lw_T := lw_T_mem (List.mem_of_getElem? (i := 799) (by decide +kernel)) (by decide +kernel)
theorem ci_X4_217 : CI RX4 217 yX0_widestGap cX0_widestGap 5 (some .int) 1 := ⟨mw_X4_217, cx_X0_widestGap, cw_X0_widestGap, by decide, by decide, by decide +kernel⟩
set_option maxRecDepth 100000 in
theorem cw_X0_fitIn : Cond.code yX0_fitIn cX0_fitIn 3 (some .int) ∈ lw_T := lw_T_mem (List.mem_of_getElem? (i := 712) (by decide +kernel)) (by decide +kernel)
set_option maxRecDepth 100000 in
theorem cx_X0_fitIn : Cond.initialized yX0_fitIn.cls ∈ lw_T := lw_T_mem (List.mem_of_getElem? (i := 32) (by decide +kernel)) (by decide +kernel)
set_option maxRecDepth 100000 in
theorem ct_X0_fitIn : Cond.instanceMethod yX0_fitIn ∈ lw_T := lw_T_mem (List.mem_of_getElem? (i := 710) (by decide +kernel)) (by decide +kernel)
set_option maxRecDepth 100000 in
theorem cs_X0_fitIn : Cond.selects yX0_fitIn.cls yX0_fitIn yX0_fitIn ∈ lw_T := lw_T_mem (List.mem_of_getElem? (i := 711) (by decide +kernel)) (by decide +kernel)
set_option maxRecDepth 100000 in
theorem mw_X4_220 : Cond.methodLink RX4 220 yX0_fitIn ∈ lw_T := lw_T_mem (List.mem_of_getElem? (i := 851) (by decide +kernel)) (by decide +kernel)
theorem ci_X4_220 : CI RX4 220 yX0_fitIn cX0_fitIn 3 (some .int) 2 := ⟨mw_X4_220, cx_X0_fitIn, cw_X0_fitIn, by decide, by decide, by decide +kernel⟩
set_option maxRecDepth 100000 in
theorem cw_X0_copyFrom : Cond.code yX0_copyFrom cX0_copyFrom 3 none ∈ lw_T := lw_T_mem (List.mem_of_getElem? (i := 944) (by decide +kernel)) (by decide +kernel)
set_option maxRecDepth 100000 in
theorem cx_X0_copyFrom : Cond.initialized yX0_copyFrom.cls ∈ lw_T := lw_T_mem (List.mem_of_getElem? (i := 32) (by decide +kernel)) (by decide +kernel)
set_option maxRecDepth 100000 in
theorem ct_X0_copyFrom : Cond.instanceMethod yX0_copyFrom ∈ lw_T := lw_T_mem (List.mem_of_getElem? (i := 942) (by decide +kernel)) (by decide +kernel)
set_option maxRecDepth 100000 in
theorem cs_X0_copyFrom : Cond.selects yX0_copyFrom.cls yX0_copyFrom yX0_copyFrom ∈ lw_T := lw_T_mem (List.mem_of_getElem? (i := 943) (by decide +kernel)) (by decide +kernel)
set_option maxRecDepth 100000 in
theorem mw_X4_224 : Cond.methodLink RX4 224 yX0_copyFrom ∈ lw_T := lw_T_mem (List.mem_of_getElem? (i := 941) (by decide +kernel)) (by decide +kernel)
theorem ci_X4_224 : CI RX4 224 yX0_copyFrom cX0_copyFrom 3 none 1 := ⟨mw_X4_224, cx_X0_copyFrom, cw_X0_copyFrom, by decide, by decide, by decide +kernel⟩
set_option maxRecDepth 100000 in
theorem cw_X0_fillUp : Cond.code yX0_fillUp cX0_fillUp 5 (some .int) ∈ lw_T := lw_T_mem (List.mem_of_getElem? (i := 949) (by decide +kernel)) (by decide +kernel)
set_option maxRecDepth 100000 in
theorem cx_X0_fillUp : Cond.initialized yX0_fillUp.cls ∈ lw_T := lw_T_mem (List.mem_of_getElem? (i := 32) (by decide +kernel)) (by decide +kernel)
set_option maxRecDepth 100000 in
theorem ct_X0_fillUp : Cond.instanceMethod yX0_fillUp ∈ lw_T := lw_T_mem (List.mem_of_getElem? (i := 947) (by decide +kernel)) (by decide +kernel)
set_option maxRecDepth 100000 in
theorem cs_X0_fillUp : Cond.selects yX0_fillUp.cls yX0_fillUp yX0_fillUp ∈ lw_T := lw_T_mem (List.mem_of_getElem? (i := 948) (by decide +kernel)) (by decide +kernel)
set_option maxRecDepth 100000 in
theorem mw_X4_228 : Cond.methodLink RX4 228 yX0_fillUp ∈ lw_T := lw_T_mem (List.mem_of_getElem? (i := 946) (by decide +kernel)) (by decide +kernel)
theorem ci_X4_228 : CI RX4 228 yX0_fillUp cX0_fillUp 5 (some .int) 2 := ⟨mw_X4_228, cx_X0_fillUp, cw_X0_fillUp, by decide, by decide, by decide +kernel⟩
set_option maxRecDepth 100000 in
theorem cw_X0_countForRow : Cond.code yX0_countForRow cX0_countForRow 5 (some .int) ∈ lw_T := lw_T_mem (List.mem_of_getElem? (i := 958) (by decide +kernel)) (by decide +kernel)
set_option maxRecDepth 100000 in
theorem cx_X0_countForRow : Cond.initialized yX0_countForRow.cls ∈ lw_T := lw_T_mem (List.mem_of_getElem? (i := 32) (by decide +kernel)) (by decide +kernel)
set_option maxRecDepth 100000 in
theorem ct_X0_countForRow : Cond.instanceMethod yX0_countForRow ∈ lw_T := lw_T_mem (List.mem_of_getElem? (i := 956) (by decide +kernel)) (by decide +kernel)
set_option maxRecDepth 100000 in
theorem cs_X0_countForRow : Cond.selects yX0_countForRow.cls yX0_countForRow yX0_countForRow ∈ lw_T := lw_T_mem (List.mem_of_getElem? (i := 957) (by decide +kernel)) (by decide +kernel)
set_option maxRecDepth 100000 in
theorem mw_X4_231 : Cond.methodLink RX4 231 yX0_countForRow ∈ lw_T := lw_T_mem (List.mem_of_getElem? (i := 955) (by decide +kernel)) (by decide +kernel)
theorem ci_X4_231 : CI RX4 231 yX0_countForRow cX0_countForRow 5 (some .int) 2 := ⟨mw_X4_231, cx_X0_countForRow, cw_X0_countForRow, by decide, by decide, by decide +kernel⟩
set_option maxRecDepth 100000 in
theorem cw_X1_worstOn : Cond.code yX1_worstOn cX1_worstOn 2 (some .int) ∈ lw_T := lw_T_mem (List.mem_of_getElem? (i := 432) (by decide +kernel)) (by decide +kernel)
set_option maxRecDepth 100000 in
theorem cx_X1_worstOn : Cond.initialized yX1_worstOn.cls ∈ lw_T := lw_T_mem (List.mem_of_getElem? (i := 41) (by decide +kernel)) (by decide +kernel)
set_option maxRecDepth 100000 in
theorem ct_X1_worstOn : Cond.instanceMethod yX1_worstOn ∈ lw_T := lw_T_mem (List.mem_of_getElem? (i := 430) (by decide +kernel)) (by decide +kernel)
set_option maxRecDepth 100000 in
theorem cs_X1_worstOn : Cond.selects yX1_worstOn.cls yX1_worstOn yX1_worstOn ∈ lw_T := lw_T_mem (List.mem_of_getElem? (i := 431) (by decide +kernel)) (by decide +kernel)
set_option maxRecDepth 100000 in
theorem mw_X4_234 : Cond.methodLink RX4 234 yX1_worstOn ∈ lw_T := lw_T_mem (List.mem_of_getElem? (i := 971) (by decide +kernel)) (by decide +kernel)
theorem ci_X4_234 : CI RX4 234 yX1_worstOn cX1_worstOn 2 (some .int) 1 := ⟨mw_X4_234, cx_X1_worstOn, cw_X1_worstOn, by decide, by decide, by decide +kernel⟩
set_option maxRecDepth 100000 in
theorem cw_X4_atMost : Cond.code yX4_atMost cX4_atMost 3 (some .int) ∈ lw_T := lw_T_mem (List.mem_of_getElem? (i := 969) (by decide +kernel)) (by decide +kernel)
set_option maxRecDepth 100000 in
theorem cx_X4_atMost : Cond.initialized yX4_atMost.cls ∈ lw_T := lw_T_mem (List.mem_of_getElem? (i := 26) (by decide +kernel)) (by decide +kernel)
set_option maxRecDepth 100000 in
theorem ct_X4_atMost : Cond.static yX4_atMost ∈ lw_T := lw_T_mem (List.mem_of_getElem? (i := 968) (by decide +kernel)) (by decide +kernel)
set_option maxRecDepth 100000 in
theorem mw_X4_237 : Cond.methodLink RX4 237 yX4_atMost ∈ lw_T := lw_T_mem (List.mem_of_getElem? (i := 972) (by decide +kernel)) (by decide +kernel)
theorem ci_X4_237 : CI RX4 237 yX4_atMost cX4_atMost 3 (some .int) 3 := ⟨mw_X4_237, cx_X4_atMost, cw_X4_atMost, by decide, by decide, by decide +kernel⟩
set_option maxRecDepth 100000 in
theorem tk_X4_241 : Cond.classLink RX4 241 "java/lang/IllegalArgumentException" ∈ lw_T := lw_T_mem (List.mem_of_getElem? (i := 178) (by decide +kernel)) (by decide +kernel)
set_option maxRecDepth 100000 in
theorem cw_X1_init : Cond.code yX1_init cX1_init 6 none ∈ lw_T := lw_T_mem (List.mem_of_getElem? (i := 815) (by decide +kernel)) (by decide +kernel)
set_option maxRecDepth 100000 in
theorem cx_X1_init : Cond.initialized yX1_init.cls ∈ lw_T := lw_T_mem (List.mem_of_getElem? (i := 41) (by decide +kernel)) (by decide +kernel)
set_option maxRecDepth 100000 in
theorem ct_X1_init : Cond.instanceMethod yX1_init ∈ lw_T := lw_T_mem (List.mem_of_getElem? (i := 814) (by decide +kernel)) (by decide +kernel)
set_option maxRecDepth 100000 in
theorem mw_X4_250 : Cond.methodLink RX4 250 yX1_init ∈ lw_T := lw_T_mem (List.mem_of_getElem? (i := 813) (by decide +kernel)) (by decide +kernel)
theorem ci_X4_250 : CI RX4 250 yX1_init cX1_init 6 none 5 := ⟨mw_X4_250, cx_X1_init, cw_X1_init, by decide, by decide, by decide +kernel⟩
set_option maxRecDepth 100000 in
theorem fw_X4_253 : Cond.fieldLink RX4 253 "RackPlanner$Rack" "row" "I" ∈ lw_T := lw_T_mem (List.mem_of_getElem? (i := 274) (by decide +kernel)) (by decide +kernel)
theorem fd_X4_253_5 : FD RX4 253 5 0 := ⟨RX2, TX2, 4, "RackPlanner$Rack", rfl, in_X2, by decide, fw_X4_253, (fun s args x _ h => h)⟩
set_option maxRecDepth 100000 in
theorem cw_X1_hasCordTo : Cond.code yX1_hasCordTo cX1_hasCordTo 2 (some .boolean) ∈ lw_T := lw_T_mem (List.mem_of_getElem? (i := 378) (by decide +kernel)) (by decide +kernel)
set_option maxRecDepth 100000 in
theorem cx_X1_hasCordTo : Cond.initialized yX1_hasCordTo.cls ∈ lw_T := lw_T_mem (List.mem_of_getElem? (i := 41) (by decide +kernel)) (by decide +kernel)
set_option maxRecDepth 100000 in
theorem ct_X1_hasCordTo : Cond.instanceMethod yX1_hasCordTo ∈ lw_T := lw_T_mem (List.mem_of_getElem? (i := 376) (by decide +kernel)) (by decide +kernel)
set_option maxRecDepth 100000 in
theorem cs_X1_hasCordTo : Cond.selects yX1_hasCordTo.cls yX1_hasCordTo yX1_hasCordTo ∈ lw_T := lw_T_mem (List.mem_of_getElem? (i := 377) (by decide +kernel)) (by decide +kernel)
set_option maxRecDepth 100000 in
theorem mw_X4_256 : Cond.methodLink RX4 256 yX1_hasCordTo ∈ lw_T := lw_T_mem (List.mem_of_getElem? (i := 375) (by decide +kernel)) (by decide +kernel)
theorem ci_X4_256 : CI RX4 256 yX1_hasCordTo cX1_hasCordTo 2 (some .boolean) 1 := ⟨mw_X4_256, cx_X1_hasCordTo, cw_X1_hasCordTo, by decide, by decide, by decide +kernel⟩
set_option maxRecDepth 100000 in
theorem cw_Jx4a65c_clear_da8c8 : Cond.code yJx4a65c_clear_da8c8 cJx4a65c_clear_da8c8 4 none ∈ lw_T := lw_T_mem (List.mem_of_getElem? (i := 458) (by decide +kernel)) (by decide +kernel)
set_option maxRecDepth 100000 in
theorem cx_Jx4a65c_clear_da8c8 : Cond.initialized yJx4a65c_clear_da8c8.cls ∈ lw_T := lw_T_mem (List.mem_of_getElem? (i := 30) (by decide +kernel)) (by decide +kernel)
set_option maxRecDepth 100000 in
theorem ct_Jx4a65c_clear_da8c8 : Cond.instanceMethod yJx4a65c_clear_da8c8 ∈ lw_T := lw_T_mem (List.mem_of_getElem? (i := 456) (by decide +kernel)) (by decide +kernel)
set_option maxRecDepth 100000 in
theorem cs_Jx4a65c_clear_da8c8 : Cond.selects yJx4a65c_clear_da8c8.cls yJx4a65c_clear_da8c8 yJx4a65c_clear_da8c8 ∈ lw_T := lw_T_mem (List.mem_of_getElem? (i := 457) (by decide +kernel)) (by decide +kernel)
set_option maxRecDepth 100000 in
theorem mw_X4_260 : Cond.methodLink RX4 260 yJx4a65c_clear_da8c8 ∈ lw_T := lw_T_mem (List.mem_of_getElem? (i := 455) (by decide +kernel)) (by decide +kernel)
theorem ci_X4_260 : CI RX4 260 yJx4a65c_clear_da8c8 cJx4a65c_clear_da8c8 4 none 0 := ⟨mw_X4_260, cx_Jx4a65c_clear_da8c8, cw_Jx4a65c_clear_da8c8, by decide, by decide, by decide +kernel⟩
set_option maxRecDepth 100000 in
theorem cw_X1_packsAhead : Cond.code yX1_packsAhead cX1_packsAhead 2 (some .boolean) ∈ lw_T := lw_T_mem (List.mem_of_getElem? (i := 462) (by decide +kernel)) (by decide +kernel)
set_option maxRecDepth 100000 in
theorem cx_X1_packsAhead : Cond.initialized yX1_packsAhead.cls ∈ lw_T := lw_T_mem (List.mem_of_getElem? (i := 41) (by decide +kernel)) (by decide +kernel)
set_option maxRecDepth 100000 in
theorem ct_X1_packsAhead : Cond.instanceMethod yX1_packsAhead ∈ lw_T := lw_T_mem (List.mem_of_getElem? (i := 460) (by decide +kernel)) (by decide +kernel)
set_option maxRecDepth 100000 in
theorem cs_X1_packsAhead : Cond.selects yX1_packsAhead.cls yX1_packsAhead yX1_packsAhead ∈ lw_T := lw_T_mem (List.mem_of_getElem? (i := 461) (by decide +kernel)) (by decide +kernel)
set_option maxRecDepth 100000 in
theorem mw_X4_262 : Cond.methodLink RX4 262 yX1_packsAhead ∈ lw_T := lw_T_mem (List.mem_of_getElem? (i := 459) (by decide +kernel)) (by decide +kernel)
theorem ci_X4_262 : CI RX4 262 yX1_packsAhead cX1_packsAhead 2 (some .boolean) 1 := ⟨mw_X4_262, cx_X1_packsAhead, cw_X1_packsAhead, by decide, by decide, by decide +kernel⟩
set_option maxRecDepth 100000 in
theorem cw_Jx4a65c_add_7a177 : Cond.code yJx4a65c_add_7a177 cJx4a65c_add_7a177 5 none ∈ lw_T := lw_T_mem (List.mem_of_getElem? (i := 466) (by decide +kernel)) (by decide +kernel)
set_option maxRecDepth 100000 in
theorem cx_Jx4a65c_add_7a177 : Cond.initialized yJx4a65c_add_7a177.cls ∈ lw_T := lw_T_mem (List.mem_of_getElem? (i := 30) (by decide +kernel)) (by decide +kernel)
set_option maxRecDepth 100000 in
theorem ct_Jx4a65c_add_7a177 : Cond.instanceMethod yJx4a65c_add_7a177 ∈ lw_T := lw_T_mem (List.mem_of_getElem? (i := 464) (by decide +kernel)) (by decide +kernel)
set_option maxRecDepth 100000 in
theorem cs_Jx4a65c_add_7a177 : Cond.selects yJx4a65c_add_7a177.cls yJx4a65c_add_7a177 yJx4a65c_add_7a177 ∈ lw_T := lw_T_mem (List.mem_of_getElem? (i := 465) (by decide +kernel)) (by decide +kernel)
set_option maxRecDepth 100000 in
theorem mw_X4_265 : Cond.methodLink RX4 265 yJx4a65c_add_7a177 ∈ lw_T := lw_T_mem (List.mem_of_getElem? (i := 463) (by decide +kernel)) (by decide +kernel)
theorem ci_X4_265 : CI RX4 265 yJx4a65c_add_7a177 cJx4a65c_add_7a177 5 none 2 := ⟨mw_X4_265, cx_Jx4a65c_add_7a177, cw_Jx4a65c_add_7a177, by decide, by decide, by decide +kernel⟩
set_option maxRecDepth 100000 in
theorem cw_J9_min_7cf53 : Cond.code yJ9_min_7cf53 cJ9_min_7cf53 2 (some .int) ∈ lw_T := lw_T_mem (List.mem_of_getElem? (i := 343) (by decide +kernel)) (by decide +kernel)
set_option maxRecDepth 100000 in
theorem cx_J9_min_7cf53 : Cond.initialized yJ9_min_7cf53.cls ∈ lw_T := lw_T_mem (List.mem_of_getElem? (i := 39) (by decide +kernel)) (by decide +kernel)
set_option maxRecDepth 100000 in
theorem ct_J9_min_7cf53 : Cond.static yJ9_min_7cf53 ∈ lw_T := lw_T_mem (List.mem_of_getElem? (i := 342) (by decide +kernel)) (by decide +kernel)
set_option maxRecDepth 100000 in
theorem mw_X4_268 : Cond.methodLink RX4 268 yJ9_min_7cf53 ∈ lw_T := lw_T_mem (List.mem_of_getElem? (i := 970) (by decide +kernel)) (by decide +kernel)
theorem ci_X4_268 : CI RX4 268 yJ9_min_7cf53 cJ9_min_7cf53 2 (some .int) 2 := ⟨mw_X4_268, cx_J9_min_7cf53, cw_J9_min_7cf53, by decide, by decide, by decide +kernel⟩
set_option maxRecDepth 100000 in
theorem tw_m_X0_3 : Cond.methodLink RX0 3 objectInit ∈ lw_T := lw_T_mem (List.mem_of_getElem? (i := 125) (by decide +kernel)) (by decide +kernel)
set_option maxRecDepth 100000 in
theorem fw_X0_9 : Cond.fieldLink RX0 9 "RackPlanner$Layout" "inCell" "[I" ∈ lw_T := lw_T_mem (List.mem_of_getElem? (i := 130) (by decide +kernel)) (by decide +kernel)
theorem fd_X0_9_3 : FD RX0 9 3 1 := ⟨RX0, TX0, 5, "RackPlanner$Layout", rfl, in_X0, by decide, fw_X0_9, (fun s args x _ h => h)⟩
theorem fp_X0_9_3 : FP RX0 9 3 1 (.array .int) true := ⟨RX0, TX0, 5, "RackPlanner$Layout", tyX0, ⟨rfl, in_X0, by decide, fw_X0_9, (fun s args x _ h => h)⟩, tyX0_ok, nmX0, by decide +kernel, rfl, fun _ => rfl⟩
set_option maxRecDepth 100000 in
theorem fw_X0_15 : Cond.fieldLink RX0 15 "RackPlanner$Layout" "weight" "[I" ∈ lw_T := lw_T_mem (List.mem_of_getElem? (i := 132) (by decide +kernel)) (by decide +kernel)
theorem fd_X0_15_3 : FD RX0 15 3 2 := ⟨RX0, TX0, 5, "RackPlanner$Layout", rfl, in_X0, by decide, fw_X0_15, (fun s args x _ h => h)⟩
theorem fp_X0_15_3 : FP RX0 15 3 2 (.array .int) true := ⟨RX0, TX0, 5, "RackPlanner$Layout", tyX0, ⟨rfl, in_X0, by decide, fw_X0_15, (fun s args x _ h => h)⟩, tyX0_ok, nmX0, by decide +kernel, rfl, fun _ => rfl⟩
set_option maxRecDepth 100000 in
theorem fw_X0_18 : Cond.fieldLink RX0 18 "RackPlanner$Layout" "heat" "[I" ∈ lw_T := lw_T_mem (List.mem_of_getElem? (i := 134) (by decide +kernel)) (by decide +kernel)
theorem fd_X0_18_3 : FD RX0 18 3 3 := ⟨RX0, TX0, 5, "RackPlanner$Layout", rfl, in_X0, by decide, fw_X0_18, (fun s args x _ h => h)⟩
theorem fp_X0_18_3 : FP RX0 18 3 3 (.array .int) true := ⟨RX0, TX0, 5, "RackPlanner$Layout", tyX0, ⟨rfl, in_X0, by decide, fw_X0_18, (fun s args x _ h => h)⟩, tyX0_ok, nmX0, by decide +kernel, rfl, fun _ => rfl⟩
set_option maxRecDepth 100000 in
theorem tk_X0_21 : Cond.classLink RX0 21 "[[I" ∈ lw_T := lw_T_mem (List.mem_of_getElem? (i := 126) (by decide +kernel)) (by decide +kernel)
set_option maxRecDepth 100000 in
theorem fw_X0_23 : Cond.fieldLink RX0 23 "RackPlanner$Layout" "worst" "[[I" ∈ lw_T := lw_T_mem (List.mem_of_getElem? (i := 135) (by decide +kernel)) (by decide +kernel)
theorem fd_X0_23_3 : FD RX0 23 3 4 := ⟨RX0, TX0, 5, "RackPlanner$Layout", rfl, in_X0, by decide, fw_X0_23, (fun s args x _ h => h)⟩
theorem fp_X0_23_3 : FP RX0 23 3 4 (.array (.array .int)) true := ⟨RX0, TX0, 5, "RackPlanner$Layout", tyX0, ⟨rfl, in_X0, by decide, fw_X0_23, (fun s args x _ h => h)⟩, tyX0_ok, nmX0, by decide +kernel, rfl, fun _ => rfl⟩
set_option maxRecDepth 100000 in
theorem fw_X0_26 : Cond.fieldLink RX0 26 "RackPlanner$Layout" "site" "LRackPlanner$Site;" ∈ lw_T := lw_T_mem (List.mem_of_getElem? (i := 129) (by decide +kernel)) (by decide +kernel)
theorem fd_X0_26_3 : FD RX0 26 3 0 := ⟨RX0, TX0, 5, "RackPlanner$Layout", rfl, in_X0, by decide, fw_X0_26, (fun s args x _ h => h)⟩
theorem fp_X0_26_3 : FP RX0 26 3 0 (.object "RackPlanner$Site") true := ⟨RX0, TX0, 5, "RackPlanner$Layout", tyX0, ⟨rfl, in_X0, by decide, fw_X0_26, (fun s args x _ h => h)⟩, tyX0_ok, nmX0, by decide +kernel, rfl, fun _ => rfl⟩
set_option maxRecDepth 100000 in
theorem cw_J7_fill_53178 : Cond.code yJ7_fill_53178 cJ7_fill_53178 4 none ∈ lw_T := lw_T_mem (List.mem_of_getElem? (i := 95) (by decide +kernel)) (by decide +kernel)
set_option maxRecDepth 100000 in
theorem cx_J7_fill_53178 : Cond.initialized yJ7_fill_53178.cls ∈ lw_T := lw_T_mem (List.mem_of_getElem? (i := 31) (by decide +kernel)) (by decide +kernel)
set_option maxRecDepth 100000 in
theorem ct_J7_fill_53178 : Cond.static yJ7_fill_53178 ∈ lw_T := lw_T_mem (List.mem_of_getElem? (i := 94) (by decide +kernel)) (by decide +kernel)
set_option maxRecDepth 100000 in
theorem mw_X0_30 : Cond.methodLink RX0 30 yJ7_fill_53178 ∈ lw_T := lw_T_mem (List.mem_of_getElem? (i := 128) (by decide +kernel)) (by decide +kernel)
theorem ci_X0_30 : CI RX0 30 yJ7_fill_53178 cJ7_fill_53178 4 none 2 := ⟨mw_X0_30, cx_J7_fill_53178, cw_J7_fill_53178, by decide, by decide, by decide +kernel⟩
set_option maxRecDepth 100000 in
theorem fw_X0_42 : Cond.fieldLink RX0 42 "RackPlanner$Machine" "slots" "I" ∈ lw_T := lw_T_mem (List.mem_of_getElem? (i := 821) (by decide +kernel)) (by decide +kernel)
theorem fd_X0_42_4 : FD RX0 42 4 1 := ⟨RX1, TX1, 7, "RackPlanner$Machine", rfl, in_X1, by decide, fw_X0_42, (fun s args x _ h => h)⟩
set_option maxRecDepth 100000 in
theorem fw_X0_48 : Cond.fieldLink RX0 48 "RackPlanner$Machine" "number" "I" ∈ lw_T := lw_T_mem (List.mem_of_getElem? (i := 818) (by decide +kernel)) (by decide +kernel)
theorem fd_X0_48_4 : FD RX0 48 4 0 := ⟨RX1, TX1, 7, "RackPlanner$Machine", rfl, in_X1, by decide, fw_X0_48, (fun s args x _ h => h)⟩
set_option maxRecDepth 100000 in
theorem cw_X0_fillCells : Cond.code yX0_fillCells cX0_fillCells 5 none ∈ lw_T := lw_T_mem (List.mem_of_getElem? (i := 421) (by decide +kernel)) (by decide +kernel)
set_option maxRecDepth 100000 in
theorem cx_X0_fillCells : Cond.initialized yX0_fillCells.cls ∈ lw_T := lw_T_mem (List.mem_of_getElem? (i := 32) (by decide +kernel)) (by decide +kernel)
set_option maxRecDepth 100000 in
theorem ct_X0_fillCells : Cond.instanceMethod yX0_fillCells ∈ lw_T := lw_T_mem (List.mem_of_getElem? (i := 420) (by decide +kernel)) (by decide +kernel)
set_option maxRecDepth 100000 in
theorem cs_X0_fillCells : Cond.selects yX0_fillCells.cls yX0_fillCells yX0_fillCells ∈ lw_T := lw_T_mem (List.mem_of_getElem? (i := 6) (by decide +kernel)) (by decide +kernel)
set_option maxRecDepth 100000 in
theorem mw_X0_51 : Cond.methodLink RX0 51 yX0_fillCells ∈ lw_T := lw_T_mem (List.mem_of_getElem? (i := 418) (by decide +kernel)) (by decide +kernel)
theorem ci_X0_51 : CI RX0 51 yX0_fillCells cX0_fillCells 5 none 3 := ⟨mw_X0_51, cx_X0_fillCells, cw_X0_fillCells, by decide, by decide, by decide +kernel⟩
set_option maxRecDepth 100000 in
theorem mw_X0_55 : Cond.methodLinkNest RX0 55 yX4_rackOfCell "RackPlanner" ∈ lw_T := lw_T_mem (List.mem_of_getElem? (i := 422) (by decide +kernel)) (by decide +kernel)
theorem cn_X0_55 : Cond.methodLinkNest RX0 55 yX4_rackOfCell "RackPlanner" ∈ lw_T ∧ Cond.initialized yX4_rackOfCell.cls ∈ lw_T ∧ Cond.code yX4_rackOfCell cX4_rackOfCell 1 (some .int) ∈ lw_T ∧ (yX4_rackOfCell.cls ≠ "java/lang/invoke/MethodHandle" ∧ yX4_rackOfCell.cls ≠ "java/lang/invoke/VarHandle" ∧ (parseMethodDescriptor yX4_rackOfCell.desc).map (fun d => d.parameters.length) = some 1) := ⟨mw_X0_55, cx_X4_rackOfCell, cw_X4_rackOfCell, by decide, by decide, by decide +kernel⟩
set_option maxRecDepth 100000 in
theorem cw_X0_addLoads : Cond.code yX0_addLoads cX0_addLoads 5 none ∈ lw_T := lw_T_mem (List.mem_of_getElem? (i := 428) (by decide +kernel)) (by decide +kernel)
set_option maxRecDepth 100000 in
theorem cx_X0_addLoads : Cond.initialized yX0_addLoads.cls ∈ lw_T := lw_T_mem (List.mem_of_getElem? (i := 32) (by decide +kernel)) (by decide +kernel)
set_option maxRecDepth 100000 in
theorem ct_X0_addLoads : Cond.instanceMethod yX0_addLoads ∈ lw_T := lw_T_mem (List.mem_of_getElem? (i := 427) (by decide +kernel)) (by decide +kernel)
set_option maxRecDepth 100000 in
theorem cs_X0_addLoads : Cond.selects yX0_addLoads.cls yX0_addLoads yX0_addLoads ∈ lw_T := lw_T_mem (List.mem_of_getElem? (i := 7) (by decide +kernel)) (by decide +kernel)
set_option maxRecDepth 100000 in
theorem mw_X0_59 : Cond.methodLink RX0 59 yX0_addLoads ∈ lw_T := lw_T_mem (List.mem_of_getElem? (i := 425) (by decide +kernel)) (by decide +kernel)
theorem ci_X0_59 : CI RX0 59 yX0_addLoads cX0_addLoads 5 none 3 := ⟨mw_X0_59, cx_X0_addLoads, cw_X0_addLoads, by decide, by decide, by decide +kernel⟩
set_option maxRecDepth 100000 in
theorem fw_X0_63 : Cond.fieldLink RX0 63 "RackPlanner$Machine" "cell" "I" ∈ lw_T := lw_T_mem (List.mem_of_getElem? (i := 832) (by decide +kernel)) (by decide +kernel)
theorem fd_X0_63_4 : FD RX0 63 4 5 := ⟨RX1, TX1, 7, "RackPlanner$Machine", rfl, in_X1, by decide, fw_X0_63, (fun s args x _ h => h)⟩
theorem fp_X0_63_4 : FP RX0 63 4 5 .int false := ⟨RX1, TX1, 7, "RackPlanner$Machine", tyX1, ⟨rfl, in_X1, by decide, fw_X0_63, (fun s args x _ h => h)⟩, tyX1_ok, nmX1, by decide +kernel, rfl, fun h => by cases h⟩
set_option maxRecDepth 100000 in
theorem fw_X0_66 : Cond.fieldLink RX0 66 "RackPlanner$Machine" "weight" "I" ∈ lw_T := lw_T_mem (List.mem_of_getElem? (i := 827) (by decide +kernel)) (by decide +kernel)
theorem fd_X0_66_4 : FD RX0 66 4 3 := ⟨RX1, TX1, 7, "RackPlanner$Machine", rfl, in_X1, by decide, fw_X0_66, (fun s args x _ h => h)⟩
set_option maxRecDepth 100000 in
theorem fw_X0_68 : Cond.fieldLink RX0 68 "RackPlanner$Machine" "power" "I" ∈ lw_T := lw_T_mem (List.mem_of_getElem? (i := 824) (by decide +kernel)) (by decide +kernel)
theorem fd_X0_68_4 : FD RX0 68 4 2 := ⟨RX1, TX1, 7, "RackPlanner$Machine", rfl, in_X1, by decide, fw_X0_68, (fun s args x _ h => h)⟩
set_option maxRecDepth 100000 in
theorem mw_X0_71 : Cond.methodLink RX0 71 yX1_worstOn ∈ lw_T := lw_T_mem (List.mem_of_getElem? (i := 429) (by decide +kernel)) (by decide +kernel)
theorem ci_X0_71 : CI RX0 71 yX1_worstOn cX1_worstOn 2 (some .int) 1 := ⟨mw_X0_71, cx_X1_worstOn, cw_X1_worstOn, by decide, by decide, by decide +kernel⟩
set_option maxRecDepth 100000 in
theorem cw_X1_worstWith : Cond.code yX1_worstWith cX1_worstWith 3 (some .int) ∈ lw_T := lw_T_mem (List.mem_of_getElem? (i := 436) (by decide +kernel)) (by decide +kernel)
set_option maxRecDepth 100000 in
theorem cx_X1_worstWith : Cond.initialized yX1_worstWith.cls ∈ lw_T := lw_T_mem (List.mem_of_getElem? (i := 41) (by decide +kernel)) (by decide +kernel)
set_option maxRecDepth 100000 in
theorem ct_X1_worstWith : Cond.instanceMethod yX1_worstWith ∈ lw_T := lw_T_mem (List.mem_of_getElem? (i := 434) (by decide +kernel)) (by decide +kernel)
set_option maxRecDepth 100000 in
theorem cs_X1_worstWith : Cond.selects yX1_worstWith.cls yX1_worstWith yX1_worstWith ∈ lw_T := lw_T_mem (List.mem_of_getElem? (i := 435) (by decide +kernel)) (by decide +kernel)
set_option maxRecDepth 100000 in
theorem mw_X0_74 : Cond.methodLink RX0 74 yX1_worstWith ∈ lw_T := lw_T_mem (List.mem_of_getElem? (i := 873) (by decide +kernel)) (by decide +kernel)
theorem ci_X0_74 : CI RX0 74 yX1_worstWith cX1_worstWith 3 (some .int) 2 := ⟨mw_X0_74, cx_X1_worstWith, cw_X1_worstWith, by decide, by decide, by decide +kernel⟩
set_option maxRecDepth 100000 in
theorem fw_X0_78 : Cond.fieldLink RX0 78 "RackPlanner$Machine" "cords" "I" ∈ lw_T := lw_T_mem (List.mem_of_getElem? (i := 829) (by decide +kernel)) (by decide +kernel)
theorem fd_X0_78_4 : FD RX0 78 4 4 := ⟨RX1, TX1, 7, "RackPlanner$Machine", rfl, in_X1, by decide, fw_X0_78, (fun s args x _ h => h)⟩
theorem fp_X0_78_4 : FP RX0 78 4 4 .int false := ⟨RX1, TX1, 7, "RackPlanner$Machine", tyX1, ⟨rfl, in_X1, by decide, fw_X0_78, (fun s args x _ h => h)⟩, tyX1_ok, nmX1, by decide +kernel, rfl, fun h => by cases h⟩
set_option maxRecDepth 100000 in
theorem cw_X0_sumInRow : Cond.code yX0_sumInRow cX0_sumInRow 5 (some .int) ∈ lw_T := lw_T_mem (List.mem_of_getElem? (i := 726) (by decide +kernel)) (by decide +kernel)
set_option maxRecDepth 100000 in
theorem cx_X0_sumInRow : Cond.initialized yX0_sumInRow.cls ∈ lw_T := lw_T_mem (List.mem_of_getElem? (i := 32) (by decide +kernel)) (by decide +kernel)
set_option maxRecDepth 100000 in
theorem ct_X0_sumInRow : Cond.instanceMethod yX0_sumInRow ∈ lw_T := lw_T_mem (List.mem_of_getElem? (i := 725) (by decide +kernel)) (by decide +kernel)
set_option maxRecDepth 100000 in
theorem cs_X0_sumInRow : Cond.selects yX0_sumInRow.cls yX0_sumInRow yX0_sumInRow ∈ lw_T := lw_T_mem (List.mem_of_getElem? (i := 13) (by decide +kernel)) (by decide +kernel)
set_option maxRecDepth 100000 in
theorem mw_X0_81 : Cond.methodLink RX0 81 yX0_sumInRow ∈ lw_T := lw_T_mem (List.mem_of_getElem? (i := 723) (by decide +kernel)) (by decide +kernel)
theorem ci_X0_81 : CI RX0 81 yX0_sumInRow cX0_sumInRow 5 (some .int) 2 := ⟨mw_X0_81, cx_X0_sumInRow, cw_X0_sumInRow, by decide, by decide, by decide +kernel⟩
set_option maxRecDepth 100000 in
theorem fw_X0_85 : Cond.fieldLink RX0 85 "RackPlanner$Site" "racks" "Ljava/util/ArrayList;" ∈ lw_T := lw_T_mem (List.mem_of_getElem? (i := 98) (by decide +kernel)) (by decide +kernel)
theorem fd_X0_85_6 : FD RX0 85 6 0 := ⟨RX3, TX3, 4, "RackPlanner$Site", rfl, in_X3, by decide, fw_X0_85, (fun s args x _ h => h)⟩
set_option maxRecDepth 100000 in
theorem mw_X0_91 : Cond.methodLink RX0 91 yJx4a65c_size_8abf5 ∈ lw_T := lw_T_mem (List.mem_of_getElem? (i := 708) (by decide +kernel)) (by decide +kernel)
theorem ci_X0_91 : CI RX0 91 yJx4a65c_size_8abf5 cJx4a65c_size_8abf5 1 (some .int) 0 := ⟨mw_X0_91, cx_Jx4a65c_size_8abf5, cw_Jx4a65c_size_8abf5, by decide, by decide, by decide +kernel⟩
set_option maxRecDepth 100000 in
theorem mw_X0_97 : Cond.methodLink RX0 97 yJx4a65c_get_915e3 ∈ lw_T := lw_T_mem (List.mem_of_getElem? (i := 717) (by decide +kernel)) (by decide +kernel)
theorem ci_X0_97 : CI RX0 97 yJx4a65c_get_915e3 cJx4a65c_get_915e3 2 (some (.object "java/lang/Object")) 1 := ⟨mw_X0_97, cx_Jx4a65c_get_915e3, cw_Jx4a65c_get_915e3, by decide, by decide, by decide +kernel⟩
set_option maxRecDepth 100000 in
theorem tk_X0_101 : Cond.classLink RX0 101 "RackPlanner$Rack" ∈ lw_T := lw_T_mem (List.mem_of_getElem? (i := 718) (by decide +kernel)) (by decide +kernel)
set_option maxRecDepth 100000 in
theorem iw_X0_101 : Cond.instantiable RX2 4 ∈ lw_T := lw_T_mem (List.mem_of_getElem? (i := 267) (by decide +kernel)) (by decide +kernel)
set_option maxRecDepth 100000 in
theorem ix_X0_101 : Cond.initialized RX2 ∈ lw_T := lw_T_mem (List.mem_of_getElem? (i := 43) (by decide +kernel)) (by decide +kernel)
theorem fn_X0_101 : FN RX0 101 5 4 [.int 0, .int 0, .int 0, .int 0] := ⟨RX2, TX2, tyX2, rfl, in_X2, tyX2_ok, tk_X0_101, iw_X0_101, ix_X0_101, by intro j hj; rcases (show j = 0 ∨ j = 1 ∨ j = 2 ∨ j = 3 by omega) with rfl | rfl | rfl | rfl <;> rfl⟩
set_option maxRecDepth 100000 in
theorem fw_X0_103 : Cond.fieldLink RX0 103 "RackPlanner$Rack" "row" "I" ∈ lw_T := lw_T_mem (List.mem_of_getElem? (i := 273) (by decide +kernel)) (by decide +kernel)
theorem fd_X0_103_5 : FD RX0 103 5 0 := ⟨RX2, TX2, 4, "RackPlanner$Rack", rfl, in_X2, by decide, fw_X0_103, (fun s args x _ h => h)⟩
set_option maxRecDepth 100000 in
theorem mw_X0_106 : Cond.methodLink RX0 106 yX0_fitIn ∈ lw_T := lw_T_mem (List.mem_of_getElem? (i := 709) (by decide +kernel)) (by decide +kernel)
theorem ci_X0_106 : CI RX0 106 yX0_fitIn cX0_fitIn 3 (some .int) 2 := ⟨mw_X0_106, cx_X0_fitIn, cw_X0_fitIn, by decide, by decide, by decide +kernel⟩
set_option maxRecDepth 100000 in
theorem cw_X0_bears : Cond.code yX0_bears cX0_bears 5 (some .boolean) ∈ lw_T := lw_T_mem (List.mem_of_getElem? (i := 716) (by decide +kernel)) (by decide +kernel)
set_option maxRecDepth 100000 in
theorem cx_X0_bears : Cond.initialized yX0_bears.cls ∈ lw_T := lw_T_mem (List.mem_of_getElem? (i := 32) (by decide +kernel)) (by decide +kernel)
set_option maxRecDepth 100000 in
theorem ct_X0_bears : Cond.instanceMethod yX0_bears ∈ lw_T := lw_T_mem (List.mem_of_getElem? (i := 715) (by decide +kernel)) (by decide +kernel)
set_option maxRecDepth 100000 in
theorem cs_X0_bears : Cond.selects yX0_bears.cls yX0_bears yX0_bears ∈ lw_T := lw_T_mem (List.mem_of_getElem? (i := 12) (by decide +kernel)) (by decide +kernel)
set_option maxRecDepth 100000 in
theorem mw_X0_110 : Cond.methodLink RX0 110 yX0_bears ∈ lw_T := lw_T_mem (List.mem_of_getElem? (i := 713) (by decide +kernel)) (by decide +kernel)
theorem ci_X0_110 : CI RX0 110 yX0_bears cX0_bears 5 (some .boolean) 2 := ⟨mw_X0_110, cx_X0_bears, cw_X0_bears, by decide, by decide, by decide +kernel⟩
set_option maxRecDepth 100000 in
theorem cw_X0_lowestFree : Cond.code yX0_lowestFree cX0_lowestFree 5 (some .int) ∈ lw_T := lw_T_mem (List.mem_of_getElem? (i := 742) (by decide +kernel)) (by decide +kernel)
set_option maxRecDepth 100000 in
theorem cx_X0_lowestFree : Cond.initialized yX0_lowestFree.cls ∈ lw_T := lw_T_mem (List.mem_of_getElem? (i := 32) (by decide +kernel)) (by decide +kernel)
set_option maxRecDepth 100000 in
theorem ct_X0_lowestFree : Cond.instanceMethod yX0_lowestFree ∈ lw_T := lw_T_mem (List.mem_of_getElem? (i := 741) (by decide +kernel)) (by decide +kernel)
set_option maxRecDepth 100000 in
theorem cs_X0_lowestFree : Cond.selects yX0_lowestFree.cls yX0_lowestFree yX0_lowestFree ∈ lw_T := lw_T_mem (List.mem_of_getElem? (i := 15) (by decide +kernel)) (by decide +kernel)
set_option maxRecDepth 100000 in
theorem mw_X0_114 : Cond.methodLink RX0 114 yX0_lowestFree ∈ lw_T := lw_T_mem (List.mem_of_getElem? (i := 739) (by decide +kernel)) (by decide +kernel)
theorem ci_X0_114 : CI RX0 114 yX0_lowestFree cX0_lowestFree 5 (some .int) 2 := ⟨mw_X0_114, cx_X0_lowestFree, cw_X0_lowestFree, by decide, by decide, by decide +kernel⟩
set_option maxRecDepth 100000 in
theorem mw_X0_117 : Cond.methodLink RX0 117 yX0_put ∈ lw_T := lw_T_mem (List.mem_of_getElem? (i := 950) (by decide +kernel)) (by decide +kernel)
theorem ci_X0_117 : CI RX0 117 yX0_put cX0_put 3 none 2 := ⟨mw_X0_117, cx_X0_put, cw_X0_put, by decide, by decide, by decide +kernel⟩
set_option maxRecDepth 100000 in
theorem fw_X0_121 : Cond.fieldLink RX0 121 "RackPlanner$Rack" "weightLimit" "I" ∈ lw_T := lw_T_mem (List.mem_of_getElem? (i := 279) (by decide +kernel)) (by decide +kernel)
theorem fd_X0_121_5 : FD RX0 121 5 2 := ⟨RX2, TX2, 4, "RackPlanner$Rack", rfl, in_X2, by decide, fw_X0_121, (fun s args x _ h => h)⟩
set_option maxRecDepth 100000 in
theorem mw_X0_124 : Cond.methodLink RX0 124 yX0_weightInRow ∈ lw_T := lw_T_mem (List.mem_of_getElem? (i := 719) (by decide +kernel)) (by decide +kernel)
theorem ci_X0_124 : CI RX0 124 yX0_weightInRow cX0_weightInRow 2 (some .int) 1 := ⟨mw_X0_124, cx_X0_weightInRow, cw_X0_weightInRow, by decide, by decide, by decide +kernel⟩
set_option maxRecDepth 100000 in
theorem fw_X0_127 : Cond.fieldLink RX0 127 "RackPlanner$Site" "rowWeight" "[I" ∈ lw_T := lw_T_mem (List.mem_of_getElem? (i := 104) (by decide +kernel)) (by decide +kernel)
theorem fd_X0_127_6 : FD RX0 127 6 2 := ⟨RX3, TX3, 4, "RackPlanner$Site", rfl, in_X3, by decide, fw_X0_127, (fun s args x _ h => h)⟩
set_option maxRecDepth 100000 in
theorem mw_X0_130 : Cond.methodLink RX0 130 yX0_heatInRow ∈ lw_T := lw_T_mem (List.mem_of_getElem? (i := 727) (by decide +kernel)) (by decide +kernel)
theorem ci_X0_130 : CI RX0 130 yX0_heatInRow cX0_heatInRow 2 (some .int) 1 := ⟨mw_X0_130, cx_X0_heatInRow, cw_X0_heatInRow, by decide, by decide, by decide +kernel⟩
set_option maxRecDepth 100000 in
theorem fw_X0_133 : Cond.fieldLink RX0 133 "RackPlanner$Site" "rowHeat" "[I" ∈ lw_T := lw_T_mem (List.mem_of_getElem? (i := 101) (by decide +kernel)) (by decide +kernel)
theorem fd_X0_133_6 : FD RX0 133 6 1 := ⟨RX3, TX3, 4, "RackPlanner$Site", rfl, in_X3, by decide, fw_X0_133, (fun s args x _ h => h)⟩
set_option maxRecDepth 100000 in
theorem cw_X0_bearsMore : Cond.code yX0_bearsMore cX0_bearsMore 4 (some .boolean) ∈ lw_T := lw_T_mem (List.mem_of_getElem? (i := 734) (by decide +kernel)) (by decide +kernel)
set_option maxRecDepth 100000 in
theorem cx_X0_bearsMore : Cond.initialized yX0_bearsMore.cls ∈ lw_T := lw_T_mem (List.mem_of_getElem? (i := 32) (by decide +kernel)) (by decide +kernel)
set_option maxRecDepth 100000 in
theorem ct_X0_bearsMore : Cond.instanceMethod yX0_bearsMore ∈ lw_T := lw_T_mem (List.mem_of_getElem? (i := 733) (by decide +kernel)) (by decide +kernel)
set_option maxRecDepth 100000 in
theorem cs_X0_bearsMore : Cond.selects yX0_bearsMore.cls yX0_bearsMore yX0_bearsMore ∈ lw_T := lw_T_mem (List.mem_of_getElem? (i := 14) (by decide +kernel)) (by decide +kernel)
set_option maxRecDepth 100000 in
theorem mw_X0_136 : Cond.methodLink RX0 136 yX0_bearsMore ∈ lw_T := lw_T_mem (List.mem_of_getElem? (i := 731) (by decide +kernel)) (by decide +kernel)
theorem ci_X0_136 : CI RX0 136 yX0_bearsMore cX0_bearsMore 4 (some .boolean) 3 := ⟨mw_X0_136, cx_X0_bearsMore, cw_X0_bearsMore, by decide, by decide, by decide +kernel⟩
set_option maxRecDepth 100000 in
theorem fw_X0_140 : Cond.fieldLink RX0 140 "RackPlanner$Rack" "powerLimit" "I" ∈ lw_T := lw_T_mem (List.mem_of_getElem? (i := 281) (by decide +kernel)) (by decide +kernel)
theorem fd_X0_140_5 : FD RX0 140 5 3 := ⟨RX2, TX2, 4, "RackPlanner$Rack", rfl, in_X2, by decide, fw_X0_140, (fun s args x _ h => h)⟩
set_option maxRecDepth 100000 in
theorem mw_X0_143 : Cond.methodLink RX0 143 yX0_worstOnFeed ∈ lw_T := lw_T_mem (List.mem_of_getElem? (i := 735) (by decide +kernel)) (by decide +kernel)
theorem ci_X0_143 : CI RX0 143 yX0_worstOnFeed cX0_worstOnFeed 4 (some .int) 1 := ⟨mw_X0_143, cx_X0_worstOnFeed, cw_X0_worstOnFeed, by decide, by decide, by decide +kernel⟩
set_option maxRecDepth 100000 in
theorem fw_X0_146 : Cond.fieldLink RX0 146 "RackPlanner$Site" "feedPower" "[I" ∈ lw_T := lw_T_mem (List.mem_of_getElem? (i := 107) (by decide +kernel)) (by decide +kernel)
theorem fd_X0_146_6 : FD RX0 146 6 3 := ⟨RX3, TX3, 4, "RackPlanner$Site", rfl, in_X3, by decide, fw_X0_146, (fun s args x _ h => h)⟩
set_option maxRecDepth 100000 in
theorem fw_X0_149 : Cond.fieldLink RX0 149 "RackPlanner$Rack" "slots" "I" ∈ lw_T := lw_T_mem (List.mem_of_getElem? (i := 277) (by decide +kernel)) (by decide +kernel)
theorem fd_X0_149_5 : FD RX0 149 5 1 := ⟨RX2, TX2, 4, "RackPlanner$Rack", rfl, in_X2, by decide, fw_X0_149, (fun s args x _ h => h)⟩
set_option maxRecDepth 100000 in
theorem mw_X0_150 : Cond.methodLinkNest RX0 150 yX4_cellAt "RackPlanner" ∈ lw_T := lw_T_mem (List.mem_of_getElem? (i := 743) (by decide +kernel)) (by decide +kernel)
theorem cn_X0_150 : Cond.methodLinkNest RX0 150 yX4_cellAt "RackPlanner" ∈ lw_T ∧ Cond.initialized yX4_cellAt.cls ∈ lw_T ∧ Cond.code yX4_cellAt cX4_cellAt 2 (some .int) ∈ lw_T ∧ (yX4_cellAt.cls ≠ "java/lang/invoke/MethodHandle" ∧ yX4_cellAt.cls ≠ "java/lang/invoke/VarHandle" ∧ (parseMethodDescriptor yX4_cellAt.desc).map (fun d => d.parameters.length) = some 2) := ⟨mw_X0_150, cx_X4_cellAt, cw_X4_cellAt, by decide, by decide, by decide +kernel⟩
set_option maxRecDepth 100000 in
theorem cw_J9_max_7cf53 : Cond.code yJ9_max_7cf53 cJ9_max_7cf53 2 (some .int) ∈ lw_T := lw_T_mem (List.mem_of_getElem? (i := 312) (by decide +kernel)) (by decide +kernel)
set_option maxRecDepth 100000 in
theorem cx_J9_max_7cf53 : Cond.initialized yJ9_max_7cf53.cls ∈ lw_T := lw_T_mem (List.mem_of_getElem? (i := 39) (by decide +kernel)) (by decide +kernel)
set_option maxRecDepth 100000 in
theorem ct_J9_max_7cf53 : Cond.static yJ9_max_7cf53 ∈ lw_T := lw_T_mem (List.mem_of_getElem? (i := 311) (by decide +kernel)) (by decide +kernel)
set_option maxRecDepth 100000 in
theorem mw_X0_153 : Cond.methodLink RX0 153 yJ9_max_7cf53 ∈ lw_T := lw_T_mem (List.mem_of_getElem? (i := 803) (by decide +kernel)) (by decide +kernel)
theorem ci_X0_153 : CI RX0 153 yJ9_max_7cf53 cJ9_max_7cf53 2 (some .int) 2 := ⟨mw_X0_153, cx_J9_max_7cf53, cw_J9_max_7cf53, by decide, by decide, by decide +kernel⟩
set_option maxRecDepth 100000 in
theorem cw_X0_countForRack : Cond.code yX0_countForRack cX0_countForRack 6 (some .int) ∈ lw_T := lw_T_mem (List.mem_of_getElem? (i := 962) (by decide +kernel)) (by decide +kernel)
set_option maxRecDepth 100000 in
theorem cx_X0_countForRack : Cond.initialized yX0_countForRack.cls ∈ lw_T := lw_T_mem (List.mem_of_getElem? (i := 32) (by decide +kernel)) (by decide +kernel)
set_option maxRecDepth 100000 in
theorem ct_X0_countForRack : Cond.instanceMethod yX0_countForRack ∈ lw_T := lw_T_mem (List.mem_of_getElem? (i := 961) (by decide +kernel)) (by decide +kernel)
set_option maxRecDepth 100000 in
theorem cs_X0_countForRack : Cond.selects yX0_countForRack.cls yX0_countForRack yX0_countForRack ∈ lw_T := lw_T_mem (List.mem_of_getElem? (i := 23) (by decide +kernel)) (by decide +kernel)
set_option maxRecDepth 100000 in
theorem mw_X0_158 : Cond.methodLink RX0 158 yX0_countForRack ∈ lw_T := lw_T_mem (List.mem_of_getElem? (i := 959) (by decide +kernel)) (by decide +kernel)
theorem ci_X0_158 : CI RX0 158 yX0_countForRack cX0_countForRack 6 (some .int) 2 := ⟨mw_X0_158, cx_X0_countForRack, cw_X0_countForRack, by decide, by decide, by decide +kernel⟩
set_option maxRecDepth 100000 in
theorem mw_X0_161 : Cond.methodLinkNest RX0 161 yX4_atMost "RackPlanner" ∈ lw_T := lw_T_mem (List.mem_of_getElem? (i := 967) (by decide +kernel)) (by decide +kernel)
theorem cn_X0_161 : Cond.methodLinkNest RX0 161 yX4_atMost "RackPlanner" ∈ lw_T ∧ Cond.initialized yX4_atMost.cls ∈ lw_T ∧ Cond.code yX4_atMost cX4_atMost 3 (some .int) ∈ lw_T ∧ (yX4_atMost.cls ≠ "java/lang/invoke/MethodHandle" ∧ yX4_atMost.cls ≠ "java/lang/invoke/VarHandle" ∧ (parseMethodDescriptor yX4_atMost.desc).map (fun d => d.parameters.length) = some 3) := ⟨mw_X0_161, cx_X4_atMost, cw_X4_atMost, by decide, by decide, by decide +kernel⟩
set_option maxRecDepth 100000 in
theorem cw_X0_countBySlots : Cond.code yX0_countBySlots cX0_countBySlots 6 (some .int) ∈ lw_T := lw_T_mem (List.mem_of_getElem? (i := 966) (by decide +kernel)) (by decide +kernel)
set_option maxRecDepth 100000 in
theorem cx_X0_countBySlots : Cond.initialized yX0_countBySlots.cls ∈ lw_T := lw_T_mem (List.mem_of_getElem? (i := 32) (by decide +kernel)) (by decide +kernel)
set_option maxRecDepth 100000 in
theorem ct_X0_countBySlots : Cond.instanceMethod yX0_countBySlots ∈ lw_T := lw_T_mem (List.mem_of_getElem? (i := 965) (by decide +kernel)) (by decide +kernel)
set_option maxRecDepth 100000 in
theorem cs_X0_countBySlots : Cond.selects yX0_countBySlots.cls yX0_countBySlots yX0_countBySlots ∈ lw_T := lw_T_mem (List.mem_of_getElem? (i := 24) (by decide +kernel)) (by decide +kernel)
set_option maxRecDepth 100000 in
theorem mw_X0_165 : Cond.methodLink RX0 165 yX0_countBySlots ∈ lw_T := lw_T_mem (List.mem_of_getElem? (i := 963) (by decide +kernel)) (by decide +kernel)
theorem ci_X0_165 : CI RX0 165 yX0_countBySlots cX0_countBySlots 6 (some .int) 2 := ⟨mw_X0_165, cx_X0_countBySlots, cw_X0_countBySlots, by decide, by decide, by decide +kernel⟩
set_option maxRecDepth 100000 in
theorem tw_m_X1_3 : Cond.methodLink RX1 3 objectInit ∈ lw_T := lw_T_mem (List.mem_of_getElem? (i := 816) (by decide +kernel)) (by decide +kernel)
set_option maxRecDepth 100000 in
theorem fw_X1_9 : Cond.fieldLink RX1 9 "RackPlanner$Machine" "number" "I" ∈ lw_T := lw_T_mem (List.mem_of_getElem? (i := 817) (by decide +kernel)) (by decide +kernel)
theorem fd_X1_9_4 : FD RX1 9 4 0 := ⟨RX1, TX1, 7, "RackPlanner$Machine", rfl, in_X1, by decide, fw_X1_9, (fun s args x _ h => h)⟩
theorem fp_X1_9_4 : FP RX1 9 4 0 .int true := ⟨RX1, TX1, 7, "RackPlanner$Machine", tyX1, ⟨rfl, in_X1, by decide, fw_X1_9, (fun s args x _ h => h)⟩, tyX1_ok, nmX1, by decide +kernel, rfl, fun _ => rfl⟩
set_option maxRecDepth 100000 in
theorem fw_X1_15 : Cond.fieldLink RX1 15 "RackPlanner$Machine" "slots" "I" ∈ lw_T := lw_T_mem (List.mem_of_getElem? (i := 820) (by decide +kernel)) (by decide +kernel)
theorem fd_X1_15_4 : FD RX1 15 4 1 := ⟨RX1, TX1, 7, "RackPlanner$Machine", rfl, in_X1, by decide, fw_X1_15, (fun s args x _ h => h)⟩
theorem fp_X1_15_4 : FP RX1 15 4 1 .int true := ⟨RX1, TX1, 7, "RackPlanner$Machine", tyX1, ⟨rfl, in_X1, by decide, fw_X1_15, (fun s args x _ h => h)⟩, tyX1_ok, nmX1, by decide +kernel, rfl, fun _ => rfl⟩
set_option maxRecDepth 100000 in
theorem fw_X1_18 : Cond.fieldLink RX1 18 "RackPlanner$Machine" "power" "I" ∈ lw_T := lw_T_mem (List.mem_of_getElem? (i := 823) (by decide +kernel)) (by decide +kernel)
theorem fd_X1_18_4 : FD RX1 18 4 2 := ⟨RX1, TX1, 7, "RackPlanner$Machine", rfl, in_X1, by decide, fw_X1_18, (fun s args x _ h => h)⟩
theorem fp_X1_18_4 : FP RX1 18 4 2 .int true := ⟨RX1, TX1, 7, "RackPlanner$Machine", tyX1, ⟨rfl, in_X1, by decide, fw_X1_18, (fun s args x _ h => h)⟩, tyX1_ok, nmX1, by decide +kernel, rfl, fun _ => rfl⟩
set_option maxRecDepth 100000 in
theorem fw_X1_21 : Cond.fieldLink RX1 21 "RackPlanner$Machine" "weight" "I" ∈ lw_T := lw_T_mem (List.mem_of_getElem? (i := 826) (by decide +kernel)) (by decide +kernel)
theorem fd_X1_21_4 : FD RX1 21 4 3 := ⟨RX1, TX1, 7, "RackPlanner$Machine", rfl, in_X1, by decide, fw_X1_21, (fun s args x _ h => h)⟩
theorem fp_X1_21_4 : FP RX1 21 4 3 .int true := ⟨RX1, TX1, 7, "RackPlanner$Machine", tyX1, ⟨rfl, in_X1, by decide, fw_X1_21, (fun s args x _ h => h)⟩, tyX1_ok, nmX1, by decide +kernel, rfl, fun _ => rfl⟩
set_option maxRecDepth 100000 in
theorem fw_X1_24 : Cond.fieldLink RX1 24 "RackPlanner$Machine" "cords" "I" ∈ lw_T := lw_T_mem (List.mem_of_getElem? (i := 828) (by decide +kernel)) (by decide +kernel)
theorem fd_X1_24_4 : FD RX1 24 4 4 := ⟨RX1, TX1, 7, "RackPlanner$Machine", rfl, in_X1, by decide, fw_X1_24, (fun s args x _ h => h)⟩
theorem fp_X1_24_4 : FP RX1 24 4 4 .int false := ⟨RX1, TX1, 7, "RackPlanner$Machine", tyX1, ⟨rfl, in_X1, by decide, fw_X1_24, (fun s args x _ h => h)⟩, tyX1_ok, nmX1, by decide +kernel, rfl, fun h => by cases h⟩
set_option maxRecDepth 100000 in
theorem fw_X1_27 : Cond.fieldLink RX1 27 "RackPlanner$Machine" "cell" "I" ∈ lw_T := lw_T_mem (List.mem_of_getElem? (i := 831) (by decide +kernel)) (by decide +kernel)
theorem fd_X1_27_4 : FD RX1 27 4 5 := ⟨RX1, TX1, 7, "RackPlanner$Machine", rfl, in_X1, by decide, fw_X1_27, (fun s args x _ h => h)⟩
theorem fp_X1_27_4 : FP RX1 27 4 5 .int false := ⟨RX1, TX1, 7, "RackPlanner$Machine", tyX1, ⟨rfl, in_X1, by decide, fw_X1_27, (fun s args x _ h => h)⟩, tyX1_ok, nmX1, by decide +kernel, rfl, fun h => by cases h⟩
set_option maxRecDepth 100000 in
theorem fw_X1_30 : Cond.fieldLink RX1 30 "RackPlanner$Machine" "packedCell" "I" ∈ lw_T := lw_T_mem (List.mem_of_getElem? (i := 834) (by decide +kernel)) (by decide +kernel)
theorem fd_X1_30_4 : FD RX1 30 4 6 := ⟨RX1, TX1, 7, "RackPlanner$Machine", rfl, in_X1, by decide, fw_X1_30, (fun s args x _ h => h)⟩
theorem fp_X1_30_4 : FP RX1 30 4 6 .int false := ⟨RX1, TX1, 7, "RackPlanner$Machine", tyX1, ⟨rfl, in_X1, by decide, fw_X1_30, (fun s args x _ h => h)⟩, tyX1_ok, nmX1, by decide +kernel, rfl, fun h => by cases h⟩
set_option maxRecDepth 100000 in
theorem cw_X1_leadTo : Cond.code yX1_leadTo cX1_leadTo 2 (some .boolean) ∈ lw_T := lw_T_mem (List.mem_of_getElem? (i := 381) (by decide +kernel)) (by decide +kernel)
set_option maxRecDepth 100000 in
theorem cx_X1_leadTo : Cond.initialized yX1_leadTo.cls ∈ lw_T := lw_T_mem (List.mem_of_getElem? (i := 41) (by decide +kernel)) (by decide +kernel)
set_option maxRecDepth 100000 in
theorem ct_X1_leadTo : Cond.static yX1_leadTo ∈ lw_T := lw_T_mem (List.mem_of_getElem? (i := 380) (by decide +kernel)) (by decide +kernel)
set_option maxRecDepth 100000 in
theorem mw_X1_33 : Cond.methodLink RX1 33 yX1_leadTo ∈ lw_T := lw_T_mem (List.mem_of_getElem? (i := 379) (by decide +kernel)) (by decide +kernel)
theorem ci_X1_33 : CI RX1 33 yX1_leadTo cX1_leadTo 2 (some .boolean) 2 := ⟨mw_X1_33, cx_X1_leadTo, cw_X1_leadTo, by decide, by decide, by decide +kernel⟩
set_option maxRecDepth 100000 in
theorem mw_X1_37 : Cond.methodLink RX1 37 yX1_worstWith ∈ lw_T := lw_T_mem (List.mem_of_getElem? (i := 433) (by decide +kernel)) (by decide +kernel)
theorem ci_X1_37 : CI RX1 37 yX1_worstWith cX1_worstWith 3 (some .int) 2 := ⟨mw_X1_37, cx_X1_worstWith, cw_X1_worstWith, by decide, by decide, by decide +kernel⟩
set_option maxRecDepth 100000 in
theorem tw_m_X2_1 : Cond.methodLink RX2 1 objectInit ∈ lw_T := lw_T_mem (List.mem_of_getElem? (i := 271) (by decide +kernel)) (by decide +kernel)
set_option maxRecDepth 100000 in
theorem fw_X2_7 : Cond.fieldLink RX2 7 "RackPlanner$Rack" "row" "I" ∈ lw_T := lw_T_mem (List.mem_of_getElem? (i := 272) (by decide +kernel)) (by decide +kernel)
theorem fd_X2_7_5 : FD RX2 7 5 0 := ⟨RX2, TX2, 4, "RackPlanner$Rack", rfl, in_X2, by decide, fw_X2_7, (fun s args x _ h => h)⟩
theorem fp_X2_7_5 : FP RX2 7 5 0 .int true := ⟨RX2, TX2, 4, "RackPlanner$Rack", tyX2, ⟨rfl, in_X2, by decide, fw_X2_7, (fun s args x _ h => h)⟩, tyX2_ok, nmX2, by decide +kernel, rfl, fun _ => rfl⟩
set_option maxRecDepth 100000 in
theorem fw_X2_13 : Cond.fieldLink RX2 13 "RackPlanner$Rack" "slots" "I" ∈ lw_T := lw_T_mem (List.mem_of_getElem? (i := 275) (by decide +kernel)) (by decide +kernel)
theorem fd_X2_13_5 : FD RX2 13 5 1 := ⟨RX2, TX2, 4, "RackPlanner$Rack", rfl, in_X2, by decide, fw_X2_13, (fun s args x _ h => h)⟩
theorem fp_X2_13_5 : FP RX2 13 5 1 .int true := ⟨RX2, TX2, 4, "RackPlanner$Rack", tyX2, ⟨rfl, in_X2, by decide, fw_X2_13, (fun s args x _ h => h)⟩, tyX2_ok, nmX2, by decide +kernel, rfl, fun _ => rfl⟩
set_option maxRecDepth 100000 in
theorem fw_X2_16 : Cond.fieldLink RX2 16 "RackPlanner$Rack" "weightLimit" "I" ∈ lw_T := lw_T_mem (List.mem_of_getElem? (i := 278) (by decide +kernel)) (by decide +kernel)
theorem fd_X2_16_5 : FD RX2 16 5 2 := ⟨RX2, TX2, 4, "RackPlanner$Rack", rfl, in_X2, by decide, fw_X2_16, (fun s args x _ h => h)⟩
theorem fp_X2_16_5 : FP RX2 16 5 2 .int true := ⟨RX2, TX2, 4, "RackPlanner$Rack", tyX2, ⟨rfl, in_X2, by decide, fw_X2_16, (fun s args x _ h => h)⟩, tyX2_ok, nmX2, by decide +kernel, rfl, fun _ => rfl⟩
set_option maxRecDepth 100000 in
theorem fw_X2_19 : Cond.fieldLink RX2 19 "RackPlanner$Rack" "powerLimit" "I" ∈ lw_T := lw_T_mem (List.mem_of_getElem? (i := 280) (by decide +kernel)) (by decide +kernel)
theorem fd_X2_19_5 : FD RX2 19 5 3 := ⟨RX2, TX2, 4, "RackPlanner$Rack", rfl, in_X2, by decide, fw_X2_19, (fun s args x _ h => h)⟩
theorem fp_X2_19_5 : FP RX2 19 5 3 .int true := ⟨RX2, TX2, 4, "RackPlanner$Rack", tyX2, ⟨rfl, in_X2, by decide, fw_X2_19, (fun s args x _ h => h)⟩, tyX2_ok, nmX2, by decide +kernel, rfl, fun _ => rfl⟩
set_option maxRecDepth 100000 in
theorem tw_m_X3_3 : Cond.methodLink RX3 3 objectInit ∈ lw_T := lw_T_mem (List.mem_of_getElem? (i := 66) (by decide +kernel)) (by decide +kernel)
set_option maxRecDepth 100000 in
theorem tk_X3_9 : Cond.classLink RX3 9 "java/util/ArrayList" ∈ lw_T := lw_T_mem (List.mem_of_getElem? (i := 67) (by decide +kernel)) (by decide +kernel)
set_option maxRecDepth 100000 in
theorem iw_X3_9 : Cond.instantiable RJx4a65c 3 ∈ lw_T := lw_T_mem (List.mem_of_getElem? (i := 68) (by decide +kernel)) (by decide +kernel)
set_option maxRecDepth 100000 in
theorem ix_X3_9 : Cond.initialized RJx4a65c ∈ lw_T := lw_T_mem (List.mem_of_getElem? (i := 30) (by decide +kernel)) (by decide +kernel)
theorem fn_X3_9 : FN RX3 9 2 3 [.int 0, .null, .int 0] := ⟨RJx4a65c, TJx4a65c, tyJx4a65c, rfl, in_Jx4a65c, tyJx4a65c_ok, tk_X3_9, iw_X3_9, ix_X3_9, by intro j hj; rcases (show j = 0 ∨ j = 1 ∨ j = 2 by omega) with rfl | rfl | rfl <;> rfl⟩
set_option maxRecDepth 100000 in
theorem mw_X3_11 : Cond.methodLink RX3 11 yJx4a65c_init_da8c8 ∈ lw_T := lw_T_mem (List.mem_of_getElem? (i := 69) (by decide +kernel)) (by decide +kernel)
theorem ci_X3_11 : CI RX3 11 yJx4a65c_init_da8c8 cJx4a65c_init_da8c8 1 none 0 := ⟨mw_X3_11, cx_Jx4a65c_init_da8c8, cw_Jx4a65c_init_da8c8, by decide, by decide, by decide +kernel⟩
set_option maxRecDepth 100000 in
theorem fw_X3_12 : Cond.fieldLink RX3 12 "RackPlanner$Site" "racks" "Ljava/util/ArrayList;" ∈ lw_T := lw_T_mem (List.mem_of_getElem? (i := 96) (by decide +kernel)) (by decide +kernel)
theorem fd_X3_12_6 : FD RX3 12 6 0 := ⟨RX3, TX3, 4, "RackPlanner$Site", rfl, in_X3, by decide, fw_X3_12, (fun s args x _ h => h)⟩
theorem fp_X3_12_6 : FP RX3 12 6 0 (.object "java/util/ArrayList") true := ⟨RX3, TX3, 4, "RackPlanner$Site", tyX3, ⟨rfl, in_X3, by decide, fw_X3_12, (fun s args x _ h => h)⟩, tyX3_ok, nmX3, by decide +kernel, rfl, fun _ => rfl⟩
set_option maxRecDepth 100000 in
theorem fw_X3_18 : Cond.fieldLink RX3 18 "RackPlanner$Site" "rowHeat" "[I" ∈ lw_T := lw_T_mem (List.mem_of_getElem? (i := 99) (by decide +kernel)) (by decide +kernel)
theorem fd_X3_18_6 : FD RX3 18 6 1 := ⟨RX3, TX3, 4, "RackPlanner$Site", rfl, in_X3, by decide, fw_X3_18, (fun s args x _ h => h)⟩
theorem fp_X3_18_6 : FP RX3 18 6 1 (.array .int) true := ⟨RX3, TX3, 4, "RackPlanner$Site", tyX3, ⟨rfl, in_X3, by decide, fw_X3_18, (fun s args x _ h => h)⟩, tyX3_ok, nmX3, by decide +kernel, rfl, fun _ => rfl⟩
set_option maxRecDepth 100000 in
theorem fw_X3_22 : Cond.fieldLink RX3 22 "RackPlanner$Site" "rowWeight" "[I" ∈ lw_T := lw_T_mem (List.mem_of_getElem? (i := 102) (by decide +kernel)) (by decide +kernel)
theorem fd_X3_22_6 : FD RX3 22 6 2 := ⟨RX3, TX3, 4, "RackPlanner$Site", rfl, in_X3, by decide, fw_X3_22, (fun s args x _ h => h)⟩
theorem fp_X3_22_6 : FP RX3 22 6 2 (.array .int) true := ⟨RX3, TX3, 4, "RackPlanner$Site", tyX3, ⟨rfl, in_X3, by decide, fw_X3_22, (fun s args x _ h => h)⟩, tyX3_ok, nmX3, by decide +kernel, rfl, fun _ => rfl⟩
set_option maxRecDepth 100000 in
theorem fw_X3_25 : Cond.fieldLink RX3 25 "RackPlanner$Site" "feedPower" "[I" ∈ lw_T := lw_T_mem (List.mem_of_getElem? (i := 105) (by decide +kernel)) (by decide +kernel)
theorem fd_X3_25_6 : FD RX3 25 6 3 := ⟨RX3, TX3, 4, "RackPlanner$Site", rfl, in_X3, by decide, fw_X3_25, (fun s args x _ h => h)⟩
theorem fp_X3_25_6 : FP RX3 25 6 3 (.array .int) true := ⟨RX3, TX3, 4, "RackPlanner$Site", tyX3, ⟨rfl, in_X3, by decide, fw_X3_25, (fun s args x _ h => h)⟩, tyX3_ok, nmX3, by decide +kernel, rfl, fun _ => rfl⟩
set_option maxRecDepth 100000 in
theorem mw_X3_28 : Cond.methodLink RX3 28 yJ7_fill_53178 ∈ lw_T := lw_T_mem (List.mem_of_getElem? (i := 93) (by decide +kernel)) (by decide +kernel)
theorem ci_X3_28 : CI RX3 28 yJ7_fill_53178 cJ7_fill_53178 4 none 2 := ⟨mw_X3_28, cx_J7_fill_53178, cw_J7_fill_53178, by decide, by decide, by decide +kernel⟩
set_option maxRecDepth 100000 in
theorem cw_X4_place : Cond.code yX4_place cX4_place 7 (some .int) ∈ lw_T := lw_T_mem (List.mem_of_getElem? (i := 859) (by decide +kernel)) (by decide +kernel)
set_option maxRecDepth 100000 in
theorem cx_X4_place : Cond.initialized yX4_place.cls ∈ lw_T := lw_T_mem (List.mem_of_getElem? (i := 26) (by decide +kernel)) (by decide +kernel)
set_option maxRecDepth 100000 in
theorem ct_X4_place : Cond.instanceMethod yX4_place ∈ lw_T := lw_T_mem (List.mem_of_getElem? (i := 857) (by decide +kernel)) (by decide +kernel)
set_option maxRecDepth 100000 in
theorem cs_X4_place : Cond.selects yX4_place.cls yX4_place yX4_place ∈ lw_T := lw_T_mem (List.mem_of_getElem? (i := 858) (by decide +kernel)) (by decide +kernel)
set_option maxRecDepth 100000 in
theorem mw_L_7 : Cond.methodLink RL 7 yX4_place ∈ lw_T := lw_T_mem (List.mem_of_getElem? (i := 856) (by decide +kernel)) (by decide +kernel)
theorem ci_L_7 : CI RL 7 yX4_place cX4_place 7 (some .int) 4 := ⟨mw_L_7, cx_X4_place, cw_X4_place, by decide, by decide, by decide +kernel⟩
set_option maxRecDepth 100000 in
theorem tk_L_8 : Cond.classLink RL 8 "RackPlanner" ∈ lw_T := lw_T_mem (List.mem_of_getElem? (i := 53) (by decide +kernel)) (by decide +kernel)
set_option maxRecDepth 100000 in
theorem iw_L_8 : Cond.instantiable RX4 7 ∈ lw_T := lw_T_mem (List.mem_of_getElem? (i := 54) (by decide +kernel)) (by decide +kernel)
set_option maxRecDepth 100000 in
theorem ix_L_8 : Cond.initialized RX4 ∈ lw_T := lw_T_mem (List.mem_of_getElem? (i := 26) (by decide +kernel)) (by decide +kernel)
theorem fn_L_8 : FN RL 8 7 7 [.null, .null, .null, .null, .null, .null, .int 0] := ⟨RX4, TX4, tyX4, rfl, in_X4, tyX4_ok, tk_L_8, iw_L_8, ix_L_8, by intro j hj; rcases (show j = 0 ∨ j = 1 ∨ j = 2 ∨ j = 3 ∨ j = 4 ∨ j = 5 ∨ j = 6 by omega) with rfl | rfl | rfl | rfl | rfl | rfl | rfl <;> rfl⟩
set_option maxRecDepth 100000 in
theorem tk_L_13 : Cond.classLink RL 13 "java/lang/IllegalStateException" ∈ lw_T := lw_T_mem (List.mem_of_getElem? (i := 855) (by decide +kernel)) (by decide +kernel)
set_option maxRecDepth 100000 in
theorem cw_X4_cord : Cond.code yX4_cord cX4_cord 5 (some .int) ∈ lw_T := lw_T_mem (List.mem_of_getElem? (i := 868) (by decide +kernel)) (by decide +kernel)
set_option maxRecDepth 100000 in
theorem cx_X4_cord : Cond.initialized yX4_cord.cls ∈ lw_T := lw_T_mem (List.mem_of_getElem? (i := 26) (by decide +kernel)) (by decide +kernel)
set_option maxRecDepth 100000 in
theorem ct_X4_cord : Cond.instanceMethod yX4_cord ∈ lw_T := lw_T_mem (List.mem_of_getElem? (i := 866) (by decide +kernel)) (by decide +kernel)
set_option maxRecDepth 100000 in
theorem cs_X4_cord : Cond.selects yX4_cord.cls yX4_cord yX4_cord ∈ lw_T := lw_T_mem (List.mem_of_getElem? (i := 867) (by decide +kernel)) (by decide +kernel)
set_option maxRecDepth 100000 in
theorem mw_L_15 : Cond.methodLink RL 15 yX4_cord ∈ lw_T := lw_T_mem (List.mem_of_getElem? (i := 865) (by decide +kernel)) (by decide +kernel)
theorem ci_L_15 : CI RL 15 yX4_cord cX4_cord 5 (some .int) 2 := ⟨mw_L_15, cx_X4_cord, cw_X4_cord, by decide, by decide, by decide +kernel⟩
set_option maxRecDepth 100000 in
theorem cw_X4_setFeed : Cond.code yX4_setFeed cX4_setFeed 4 (some .int) ∈ lw_T := lw_T_mem (List.mem_of_getElem? (i := 885) (by decide +kernel)) (by decide +kernel)
set_option maxRecDepth 100000 in
theorem cx_X4_setFeed : Cond.initialized yX4_setFeed.cls ∈ lw_T := lw_T_mem (List.mem_of_getElem? (i := 26) (by decide +kernel)) (by decide +kernel)
set_option maxRecDepth 100000 in
theorem ct_X4_setFeed : Cond.instanceMethod yX4_setFeed ∈ lw_T := lw_T_mem (List.mem_of_getElem? (i := 883) (by decide +kernel)) (by decide +kernel)
set_option maxRecDepth 100000 in
theorem cs_X4_setFeed : Cond.selects yX4_setFeed.cls yX4_setFeed yX4_setFeed ∈ lw_T := lw_T_mem (List.mem_of_getElem? (i := 884) (by decide +kernel)) (by decide +kernel)
set_option maxRecDepth 100000 in
theorem mw_L_19 : Cond.methodLink RL 19 yX4_setFeed ∈ lw_T := lw_T_mem (List.mem_of_getElem? (i := 882) (by decide +kernel)) (by decide +kernel)
theorem ci_L_19 : CI RL 19 yX4_setFeed cX4_setFeed 4 (some .int) 2 := ⟨mw_L_19, cx_X4_setFeed, cw_X4_setFeed, by decide, by decide, by decide +kernel⟩
set_option maxRecDepth 100000 in
theorem cw_X4_setRow : Cond.code yX4_setRow cX4_setRow 4 none ∈ lw_T := lw_T_mem (List.mem_of_getElem? (i := 894) (by decide +kernel)) (by decide +kernel)
set_option maxRecDepth 100000 in
theorem cx_X4_setRow : Cond.initialized yX4_setRow.cls ∈ lw_T := lw_T_mem (List.mem_of_getElem? (i := 26) (by decide +kernel)) (by decide +kernel)
set_option maxRecDepth 100000 in
theorem ct_X4_setRow : Cond.instanceMethod yX4_setRow ∈ lw_T := lw_T_mem (List.mem_of_getElem? (i := 892) (by decide +kernel)) (by decide +kernel)
set_option maxRecDepth 100000 in
theorem cs_X4_setRow : Cond.selects yX4_setRow.cls yX4_setRow yX4_setRow ∈ lw_T := lw_T_mem (List.mem_of_getElem? (i := 893) (by decide +kernel)) (by decide +kernel)
set_option maxRecDepth 100000 in
theorem mw_L_22 : Cond.methodLink RL 22 yX4_setRow ∈ lw_T := lw_T_mem (List.mem_of_getElem? (i := 891) (by decide +kernel)) (by decide +kernel)
theorem ci_L_22 : CI RL 22 yX4_setRow cX4_setRow 4 none 3 := ⟨mw_L_22, cx_X4_setRow, cw_X4_setRow, by decide, by decide, by decide +kernel⟩
set_option maxRecDepth 100000 in
theorem cw_X4_rackOf : Cond.code yX4_rackOf cX4_rackOf 2 (some .int) ∈ lw_T := lw_T_mem (List.mem_of_getElem? (i := 765) (by decide +kernel)) (by decide +kernel)
set_option maxRecDepth 100000 in
theorem cx_X4_rackOf : Cond.initialized yX4_rackOf.cls ∈ lw_T := lw_T_mem (List.mem_of_getElem? (i := 26) (by decide +kernel)) (by decide +kernel)
set_option maxRecDepth 100000 in
theorem ct_X4_rackOf : Cond.instanceMethod yX4_rackOf ∈ lw_T := lw_T_mem (List.mem_of_getElem? (i := 763) (by decide +kernel)) (by decide +kernel)
set_option maxRecDepth 100000 in
theorem cs_X4_rackOf : Cond.selects yX4_rackOf.cls yX4_rackOf yX4_rackOf ∈ lw_T := lw_T_mem (List.mem_of_getElem? (i := 764) (by decide +kernel)) (by decide +kernel)
set_option maxRecDepth 100000 in
theorem mw_L_26 : Cond.methodLink RL 26 yX4_rackOf ∈ lw_T := lw_T_mem (List.mem_of_getElem? (i := 762) (by decide +kernel)) (by decide +kernel)
theorem ci_L_26 : CI RL 26 yX4_rackOf cX4_rackOf 2 (some .int) 1 := ⟨mw_L_26, cx_X4_rackOf, cw_X4_rackOf, by decide, by decide, by decide +kernel⟩
set_option maxRecDepth 100000 in
theorem tk_L_30 : Cond.classLink RL 30 "java/lang/IndexOutOfBoundsException" ∈ lw_T := lw_T_mem (List.mem_of_getElem? (i := 901) (by decide +kernel)) (by decide +kernel)
set_option maxRecDepth 100000 in
theorem cw_X4_next : Cond.code yX4_next cX4_next 3 (some .int) ∈ lw_T := lw_T_mem (List.mem_of_getElem? (i := 777) (by decide +kernel)) (by decide +kernel)
set_option maxRecDepth 100000 in
theorem cx_X4_next : Cond.initialized yX4_next.cls ∈ lw_T := lw_T_mem (List.mem_of_getElem? (i := 26) (by decide +kernel)) (by decide +kernel)
set_option maxRecDepth 100000 in
theorem ct_X4_next : Cond.instanceMethod yX4_next ∈ lw_T := lw_T_mem (List.mem_of_getElem? (i := 775) (by decide +kernel)) (by decide +kernel)
set_option maxRecDepth 100000 in
theorem cs_X4_next : Cond.selects yX4_next.cls yX4_next yX4_next ∈ lw_T := lw_T_mem (List.mem_of_getElem? (i := 776) (by decide +kernel)) (by decide +kernel)
set_option maxRecDepth 100000 in
theorem mw_L_32 : Cond.methodLink RL 32 yX4_next ∈ lw_T := lw_T_mem (List.mem_of_getElem? (i := 774) (by decide +kernel)) (by decide +kernel)
theorem ci_L_32 : CI RL 32 yX4_next cX4_next 3 (some .int) 1 := ⟨mw_L_32, cx_X4_next, cw_X4_next, by decide, by decide, by decide +kernel⟩
set_option maxRecDepth 100000 in
theorem cw_X4_slotOf : Cond.code yX4_slotOf cX4_slotOf 2 (some .int) ∈ lw_T := lw_T_mem (List.mem_of_getElem? (i := 908) (by decide +kernel)) (by decide +kernel)
set_option maxRecDepth 100000 in
theorem cx_X4_slotOf : Cond.initialized yX4_slotOf.cls ∈ lw_T := lw_T_mem (List.mem_of_getElem? (i := 26) (by decide +kernel)) (by decide +kernel)
set_option maxRecDepth 100000 in
theorem ct_X4_slotOf : Cond.instanceMethod yX4_slotOf ∈ lw_T := lw_T_mem (List.mem_of_getElem? (i := 906) (by decide +kernel)) (by decide +kernel)
set_option maxRecDepth 100000 in
theorem cs_X4_slotOf : Cond.selects yX4_slotOf.cls yX4_slotOf yX4_slotOf ∈ lw_T := lw_T_mem (List.mem_of_getElem? (i := 907) (by decide +kernel)) (by decide +kernel)
set_option maxRecDepth 100000 in
theorem mw_L_35 : Cond.methodLink RL 35 yX4_slotOf ∈ lw_T := lw_T_mem (List.mem_of_getElem? (i := 905) (by decide +kernel)) (by decide +kernel)
theorem ci_L_35 : CI RL 35 yX4_slotOf cX4_slotOf 2 (some .int) 1 := ⟨mw_L_35, cx_X4_slotOf, cw_X4_slotOf, by decide, by decide, by decide +kernel⟩
set_option maxRecDepth 100000 in
theorem cw_X4_machineAt : Cond.code yX4_machineAt cX4_machineAt 4 (some .int) ∈ lw_T := lw_T_mem (List.mem_of_getElem? (i := 912) (by decide +kernel)) (by decide +kernel)
set_option maxRecDepth 100000 in
theorem cx_X4_machineAt : Cond.initialized yX4_machineAt.cls ∈ lw_T := lw_T_mem (List.mem_of_getElem? (i := 26) (by decide +kernel)) (by decide +kernel)
set_option maxRecDepth 100000 in
theorem ct_X4_machineAt : Cond.instanceMethod yX4_machineAt ∈ lw_T := lw_T_mem (List.mem_of_getElem? (i := 910) (by decide +kernel)) (by decide +kernel)
set_option maxRecDepth 100000 in
theorem cs_X4_machineAt : Cond.selects yX4_machineAt.cls yX4_machineAt yX4_machineAt ∈ lw_T := lw_T_mem (List.mem_of_getElem? (i := 911) (by decide +kernel)) (by decide +kernel)
set_option maxRecDepth 100000 in
theorem mw_L_38 : Cond.methodLink RL 38 yX4_machineAt ∈ lw_T := lw_T_mem (List.mem_of_getElem? (i := 909) (by decide +kernel)) (by decide +kernel)
theorem ci_L_38 : CI RL 38 yX4_machineAt cX4_machineAt 4 (some .int) 2 := ⟨mw_L_38, cx_X4_machineAt, cw_X4_machineAt, by decide, by decide, by decide +kernel⟩
set_option maxRecDepth 100000 in
theorem cw_X4_machines : Cond.code yX4_machines cX4_machines 1 (some .int) ∈ lw_T := lw_T_mem (List.mem_of_getElem? (i := 761) (by decide +kernel)) (by decide +kernel)
set_option maxRecDepth 100000 in
theorem cx_X4_machines : Cond.initialized yX4_machines.cls ∈ lw_T := lw_T_mem (List.mem_of_getElem? (i := 26) (by decide +kernel)) (by decide +kernel)
set_option maxRecDepth 100000 in
theorem ct_X4_machines : Cond.instanceMethod yX4_machines ∈ lw_T := lw_T_mem (List.mem_of_getElem? (i := 759) (by decide +kernel)) (by decide +kernel)
set_option maxRecDepth 100000 in
theorem cs_X4_machines : Cond.selects yX4_machines.cls yX4_machines yX4_machines ∈ lw_T := lw_T_mem (List.mem_of_getElem? (i := 760) (by decide +kernel)) (by decide +kernel)
set_option maxRecDepth 100000 in
theorem mw_L_41 : Cond.methodLink RL 41 yX4_machines ∈ lw_T := lw_T_mem (List.mem_of_getElem? (i := 758) (by decide +kernel)) (by decide +kernel)
theorem ci_L_41 : CI RL 41 yX4_machines cX4_machines 1 (some .int) 0 := ⟨mw_L_41, cx_X4_machines, cw_X4_machines, by decide, by decide, by decide +kernel⟩
set_option maxRecDepth 100000 in
theorem cw_X4_racks : Cond.code yX4_racks cX4_racks 1 (some .int) ∈ lw_T := lw_T_mem (List.mem_of_getElem? (i := 389) (by decide +kernel)) (by decide +kernel)
set_option maxRecDepth 100000 in
theorem cx_X4_racks : Cond.initialized yX4_racks.cls ∈ lw_T := lw_T_mem (List.mem_of_getElem? (i := 26) (by decide +kernel)) (by decide +kernel)
set_option maxRecDepth 100000 in
theorem ct_X4_racks : Cond.instanceMethod yX4_racks ∈ lw_T := lw_T_mem (List.mem_of_getElem? (i := 387) (by decide +kernel)) (by decide +kernel)
set_option maxRecDepth 100000 in
theorem cs_X4_racks : Cond.selects yX4_racks.cls yX4_racks yX4_racks ∈ lw_T := lw_T_mem (List.mem_of_getElem? (i := 388) (by decide +kernel)) (by decide +kernel)
set_option maxRecDepth 100000 in
theorem mw_L_45 : Cond.methodLink RL 45 yX4_racks ∈ lw_T := lw_T_mem (List.mem_of_getElem? (i := 386) (by decide +kernel)) (by decide +kernel)
theorem ci_L_45 : CI RL 45 yX4_racks cX4_racks 1 (some .int) 0 := ⟨mw_L_45, cx_X4_racks, cw_X4_racks, by decide, by decide, by decide +kernel⟩
set_option maxRecDepth 100000 in
theorem cw_X4_gap : Cond.code yX4_gap cX4_gap 2 (some .int) ∈ lw_T := lw_T_mem (List.mem_of_getElem? (i := 798) (by decide +kernel)) (by decide +kernel)
set_option maxRecDepth 100000 in
theorem cx_X4_gap : Cond.initialized yX4_gap.cls ∈ lw_T := lw_T_mem (List.mem_of_getElem? (i := 26) (by decide +kernel)) (by decide +kernel)
set_option maxRecDepth 100000 in
theorem ct_X4_gap : Cond.instanceMethod yX4_gap ∈ lw_T := lw_T_mem (List.mem_of_getElem? (i := 796) (by decide +kernel)) (by decide +kernel)
set_option maxRecDepth 100000 in
theorem cs_X4_gap : Cond.selects yX4_gap.cls yX4_gap yX4_gap ∈ lw_T := lw_T_mem (List.mem_of_getElem? (i := 797) (by decide +kernel)) (by decide +kernel)
set_option maxRecDepth 100000 in
theorem mw_L_48 : Cond.methodLink RL 48 yX4_gap ∈ lw_T := lw_T_mem (List.mem_of_getElem? (i := 795) (by decide +kernel)) (by decide +kernel)
theorem ci_L_48 : CI RL 48 yX4_gap cX4_gap 2 (some .int) 1 := ⟨mw_L_48, cx_X4_gap, cw_X4_gap, by decide, by decide, by decide +kernel⟩
set_option maxRecDepth 100000 in
theorem cw_X4_worstOf : Cond.code yX4_worstOf cX4_worstOf 3 (some .int) ∈ lw_T := lw_T_mem (List.mem_of_getElem? (i := 785) (by decide +kernel)) (by decide +kernel)
set_option maxRecDepth 100000 in
theorem cx_X4_worstOf : Cond.initialized yX4_worstOf.cls ∈ lw_T := lw_T_mem (List.mem_of_getElem? (i := 26) (by decide +kernel)) (by decide +kernel)
set_option maxRecDepth 100000 in
theorem ct_X4_worstOf : Cond.instanceMethod yX4_worstOf ∈ lw_T := lw_T_mem (List.mem_of_getElem? (i := 783) (by decide +kernel)) (by decide +kernel)
set_option maxRecDepth 100000 in
theorem cs_X4_worstOf : Cond.selects yX4_worstOf.cls yX4_worstOf yX4_worstOf ∈ lw_T := lw_T_mem (List.mem_of_getElem? (i := 784) (by decide +kernel)) (by decide +kernel)
set_option maxRecDepth 100000 in
theorem mw_L_51 : Cond.methodLink RL 51 yX4_worstOf ∈ lw_T := lw_T_mem (List.mem_of_getElem? (i := 782) (by decide +kernel)) (by decide +kernel)
theorem ci_L_51 : CI RL 51 yX4_worstOf cX4_worstOf 3 (some .int) 2 := ⟨mw_L_51, cx_X4_worstOf, cw_X4_worstOf, by decide, by decide, by decide +kernel⟩
set_option maxRecDepth 100000 in
theorem cw_X4_powerOf : Cond.code yX4_powerOf cX4_powerOf 6 (some .int) ∈ lw_T := lw_T_mem (List.mem_of_getElem? (i := 921) (by decide +kernel)) (by decide +kernel)
set_option maxRecDepth 100000 in
theorem cx_X4_powerOf : Cond.initialized yX4_powerOf.cls ∈ lw_T := lw_T_mem (List.mem_of_getElem? (i := 26) (by decide +kernel)) (by decide +kernel)
set_option maxRecDepth 100000 in
theorem ct_X4_powerOf : Cond.instanceMethod yX4_powerOf ∈ lw_T := lw_T_mem (List.mem_of_getElem? (i := 919) (by decide +kernel)) (by decide +kernel)
set_option maxRecDepth 100000 in
theorem cs_X4_powerOf : Cond.selects yX4_powerOf.cls yX4_powerOf yX4_powerOf ∈ lw_T := lw_T_mem (List.mem_of_getElem? (i := 920) (by decide +kernel)) (by decide +kernel)
set_option maxRecDepth 100000 in
theorem mw_L_54 : Cond.methodLink RL 54 yX4_powerOf ∈ lw_T := lw_T_mem (List.mem_of_getElem? (i := 918) (by decide +kernel)) (by decide +kernel)
theorem ci_L_54 : CI RL 54 yX4_powerOf cX4_powerOf 6 (some .int) 2 := ⟨mw_L_54, cx_X4_powerOf, cw_X4_powerOf, by decide, by decide, by decide +kernel⟩
set_option maxRecDepth 100000 in
theorem cw_X4_hasFailed : Cond.code yX4_hasFailed cX4_hasFailed 2 (some .boolean) ∈ lw_T := lw_T_mem (List.mem_of_getElem? (i := 385) (by decide +kernel)) (by decide +kernel)
set_option maxRecDepth 100000 in
theorem cx_X4_hasFailed : Cond.initialized yX4_hasFailed.cls ∈ lw_T := lw_T_mem (List.mem_of_getElem? (i := 26) (by decide +kernel)) (by decide +kernel)
set_option maxRecDepth 100000 in
theorem ct_X4_hasFailed : Cond.instanceMethod yX4_hasFailed ∈ lw_T := lw_T_mem (List.mem_of_getElem? (i := 383) (by decide +kernel)) (by decide +kernel)
set_option maxRecDepth 100000 in
theorem cs_X4_hasFailed : Cond.selects yX4_hasFailed.cls yX4_hasFailed yX4_hasFailed ∈ lw_T := lw_T_mem (List.mem_of_getElem? (i := 384) (by decide +kernel)) (by decide +kernel)
set_option maxRecDepth 100000 in
theorem mw_L_57 : Cond.methodLink RL 57 yX4_hasFailed ∈ lw_T := lw_T_mem (List.mem_of_getElem? (i := 382) (by decide +kernel)) (by decide +kernel)
theorem ci_L_57 : CI RL 57 yX4_hasFailed cX4_hasFailed 2 (some .boolean) 1 := ⟨mw_L_57, cx_X4_hasFailed, cw_X4_hasFailed, by decide, by decide, by decide +kernel⟩
set_option maxRecDepth 100000 in
theorem cw_X4_heatOf : Cond.code yX4_heatOf cX4_heatOf 5 (some .int) ∈ lw_T := lw_T_mem (List.mem_of_getElem? (i := 929) (by decide +kernel)) (by decide +kernel)
set_option maxRecDepth 100000 in
theorem cx_X4_heatOf : Cond.initialized yX4_heatOf.cls ∈ lw_T := lw_T_mem (List.mem_of_getElem? (i := 26) (by decide +kernel)) (by decide +kernel)
set_option maxRecDepth 100000 in
theorem ct_X4_heatOf : Cond.instanceMethod yX4_heatOf ∈ lw_T := lw_T_mem (List.mem_of_getElem? (i := 927) (by decide +kernel)) (by decide +kernel)
set_option maxRecDepth 100000 in
theorem cs_X4_heatOf : Cond.selects yX4_heatOf.cls yX4_heatOf yX4_heatOf ∈ lw_T := lw_T_mem (List.mem_of_getElem? (i := 928) (by decide +kernel)) (by decide +kernel)
set_option maxRecDepth 100000 in
theorem mw_L_61 : Cond.methodLink RL 61 yX4_heatOf ∈ lw_T := lw_T_mem (List.mem_of_getElem? (i := 926) (by decide +kernel)) (by decide +kernel)
theorem ci_L_61 : CI RL 61 yX4_heatOf cX4_heatOf 5 (some .int) 1 := ⟨mw_L_61, cx_X4_heatOf, cw_X4_heatOf, by decide, by decide, by decide +kernel⟩
set_option maxRecDepth 100000 in
theorem cw_X4_isDark : Cond.code yX4_isDark cX4_isDark 2 (some .boolean) ∈ lw_T := lw_T_mem (List.mem_of_getElem? (i := 773) (by decide +kernel)) (by decide +kernel)
set_option maxRecDepth 100000 in
theorem cx_X4_isDark : Cond.initialized yX4_isDark.cls ∈ lw_T := lw_T_mem (List.mem_of_getElem? (i := 26) (by decide +kernel)) (by decide +kernel)
set_option maxRecDepth 100000 in
theorem ct_X4_isDark : Cond.instanceMethod yX4_isDark ∈ lw_T := lw_T_mem (List.mem_of_getElem? (i := 771) (by decide +kernel)) (by decide +kernel)
set_option maxRecDepth 100000 in
theorem cs_X4_isDark : Cond.selects yX4_isDark.cls yX4_isDark yX4_isDark ∈ lw_T := lw_T_mem (List.mem_of_getElem? (i := 772) (by decide +kernel)) (by decide +kernel)
set_option maxRecDepth 100000 in
theorem mw_L_64 : Cond.methodLink RL 64 yX4_isDark ∈ lw_T := lw_T_mem (List.mem_of_getElem? (i := 770) (by decide +kernel)) (by decide +kernel)
theorem ci_L_64 : CI RL 64 yX4_isDark cX4_isDark 2 (some .boolean) 1 := ⟨mw_L_64, cx_X4_isDark, cw_X4_isDark, by decide, by decide, by decide +kernel⟩
set_option maxRecDepth 100000 in
theorem cw_X4_racksFor : Cond.code yX4_racksFor cX4_racksFor 8 (some .int) ∈ lw_T := lw_T_mem (List.mem_of_getElem? (i := 807) (by decide +kernel)) (by decide +kernel)
set_option maxRecDepth 100000 in
theorem cx_X4_racksFor : Cond.initialized yX4_racksFor.cls ∈ lw_T := lw_T_mem (List.mem_of_getElem? (i := 26) (by decide +kernel)) (by decide +kernel)
set_option maxRecDepth 100000 in
theorem ct_X4_racksFor : Cond.instanceMethod yX4_racksFor ∈ lw_T := lw_T_mem (List.mem_of_getElem? (i := 805) (by decide +kernel)) (by decide +kernel)
set_option maxRecDepth 100000 in
theorem cs_X4_racksFor : Cond.selects yX4_racksFor.cls yX4_racksFor yX4_racksFor ∈ lw_T := lw_T_mem (List.mem_of_getElem? (i := 806) (by decide +kernel)) (by decide +kernel)
set_option maxRecDepth 100000 in
theorem mw_L_67 : Cond.methodLink RL 67 yX4_racksFor ∈ lw_T := lw_T_mem (List.mem_of_getElem? (i := 804) (by decide +kernel)) (by decide +kernel)
theorem ci_L_67 : CI RL 67 yX4_racksFor cX4_racksFor 8 (some .int) 4 := ⟨mw_L_67, cx_X4_racksFor, cw_X4_racksFor, by decide, by decide, by decide +kernel⟩
set_option maxRecDepth 100000 in
theorem cw_X4_roomFor : Cond.code yX4_roomFor cX4_roomFor 8 (some .int) ∈ lw_T := lw_T_mem (List.mem_of_getElem? (i := 940) (by decide +kernel)) (by decide +kernel)
set_option maxRecDepth 100000 in
theorem cx_X4_roomFor : Cond.initialized yX4_roomFor.cls ∈ lw_T := lw_T_mem (List.mem_of_getElem? (i := 26) (by decide +kernel)) (by decide +kernel)
set_option maxRecDepth 100000 in
theorem ct_X4_roomFor : Cond.instanceMethod yX4_roomFor ∈ lw_T := lw_T_mem (List.mem_of_getElem? (i := 938) (by decide +kernel)) (by decide +kernel)
set_option maxRecDepth 100000 in
theorem cs_X4_roomFor : Cond.selects yX4_roomFor.cls yX4_roomFor yX4_roomFor ∈ lw_T := lw_T_mem (List.mem_of_getElem? (i := 939) (by decide +kernel)) (by decide +kernel)
set_option maxRecDepth 100000 in
theorem mw_L_70 : Cond.methodLink RL 70 yX4_roomFor ∈ lw_T := lw_T_mem (List.mem_of_getElem? (i := 937) (by decide +kernel)) (by decide +kernel)
theorem ci_L_70 : CI RL 70 yX4_roomFor cX4_roomFor 8 (some .int) 4 := ⟨mw_L_70, cx_X4_roomFor, cw_X4_roomFor, by decide, by decide, by decide +kernel⟩
set_option maxRecDepth 100000 in
theorem cw_X4_roomByCounting : Cond.code yX4_roomByCounting cX4_roomByCounting 9 (some .int) ∈ lw_T := lw_T_mem (List.mem_of_getElem? (i := 954) (by decide +kernel)) (by decide +kernel)
set_option maxRecDepth 100000 in
theorem cx_X4_roomByCounting : Cond.initialized yX4_roomByCounting.cls ∈ lw_T := lw_T_mem (List.mem_of_getElem? (i := 26) (by decide +kernel)) (by decide +kernel)
set_option maxRecDepth 100000 in
theorem ct_X4_roomByCounting : Cond.instanceMethod yX4_roomByCounting ∈ lw_T := lw_T_mem (List.mem_of_getElem? (i := 952) (by decide +kernel)) (by decide +kernel)
set_option maxRecDepth 100000 in
theorem cs_X4_roomByCounting : Cond.selects yX4_roomByCounting.cls yX4_roomByCounting yX4_roomByCounting ∈ lw_T := lw_T_mem (List.mem_of_getElem? (i := 953) (by decide +kernel)) (by decide +kernel)
set_option maxRecDepth 100000 in
theorem mw_L_73 : Cond.methodLink RL 73 yX4_roomByCounting ∈ lw_T := lw_T_mem (List.mem_of_getElem? (i := 951) (by decide +kernel)) (by decide +kernel)
theorem ci_L_73 : CI RL 73 yX4_roomByCounting cX4_roomByCounting 9 (some .int) 4 := ⟨mw_L_73, cx_X4_roomByCounting, cw_X4_roomByCounting, by decide, by decide, by decide +kernel⟩
set_option maxRecDepth 100000 in
theorem cw_X4_takeOut : Cond.code yX4_takeOut cX4_takeOut 4 (some .int) ∈ lw_T := lw_T_mem (List.mem_of_getElem? (i := 393) (by decide +kernel)) (by decide +kernel)
set_option maxRecDepth 100000 in
theorem cx_X4_takeOut : Cond.initialized yX4_takeOut.cls ∈ lw_T := lw_T_mem (List.mem_of_getElem? (i := 26) (by decide +kernel)) (by decide +kernel)
set_option maxRecDepth 100000 in
theorem ct_X4_takeOut : Cond.instanceMethod yX4_takeOut ∈ lw_T := lw_T_mem (List.mem_of_getElem? (i := 391) (by decide +kernel)) (by decide +kernel)
set_option maxRecDepth 100000 in
theorem cs_X4_takeOut : Cond.selects yX4_takeOut.cls yX4_takeOut yX4_takeOut ∈ lw_T := lw_T_mem (List.mem_of_getElem? (i := 392) (by decide +kernel)) (by decide +kernel)
set_option maxRecDepth 100000 in
theorem mw_L_82 : Cond.methodLink RL 82 yX4_takeOut ∈ lw_T := lw_T_mem (List.mem_of_getElem? (i := 390) (by decide +kernel)) (by decide +kernel)
theorem ci_L_82 : CI RL 82 yX4_takeOut cX4_takeOut 4 (some .int) 1 := ⟨mw_L_82, cx_X4_takeOut, cw_X4_takeOut, by decide, by decide, by decide +kernel⟩
set_option maxRecDepth 100000 in
theorem cw_X4_init : Cond.code yX4_init cX4_init 1 none ∈ lw_T := lw_T_mem (List.mem_of_getElem? (i := 57) (by decide +kernel)) (by decide +kernel)
set_option maxRecDepth 100000 in
theorem cx_X4_init : Cond.initialized yX4_init.cls ∈ lw_T := lw_T_mem (List.mem_of_getElem? (i := 26) (by decide +kernel)) (by decide +kernel)
set_option maxRecDepth 100000 in
theorem ct_X4_init : Cond.instanceMethod yX4_init ∈ lw_T := lw_T_mem (List.mem_of_getElem? (i := 56) (by decide +kernel)) (by decide +kernel)
set_option maxRecDepth 100000 in
theorem mw_L_89 : Cond.methodLink RL 89 yX4_init ∈ lw_T := lw_T_mem (List.mem_of_getElem? (i := 55) (by decide +kernel)) (by decide +kernel)
theorem ci_L_89 : CI RL 89 yX4_init cX4_init 1 none 0 := ⟨mw_L_89, cx_X4_init, cw_X4_init, by decide, by decide, by decide +kernel⟩
set_option maxRecDepth 100000 in
theorem cw_L_isWalked : Cond.code yL_isWalked cL_isWalked 11 (some .boolean) ∈ lw_T := lw_T_mem (List.mem_of_getElem? (i := 904) (by decide +kernel)) (by decide +kernel)
set_option maxRecDepth 100000 in
theorem cx_L_isWalked : Cond.initialized yL_isWalked.cls ∈ lw_T := lw_T_mem (List.mem_of_getElem? (i := 25) (by decide +kernel)) (by decide +kernel)
set_option maxRecDepth 100000 in
theorem ct_L_isWalked : Cond.static yL_isWalked ∈ lw_T := lw_T_mem (List.mem_of_getElem? (i := 903) (by decide +kernel)) (by decide +kernel)
set_option maxRecDepth 100000 in
theorem mw_L_90 : Cond.methodLink RL 90 yL_isWalked ∈ lw_T := lw_T_mem (List.mem_of_getElem? (i := 902) (by decide +kernel)) (by decide +kernel)
theorem ci_L_90 : CI RL 90 yL_isWalked cL_isWalked 11 (some .boolean) 2 := ⟨mw_L_90, cx_L_isWalked, cw_L_isWalked, by decide, by decide, by decide +kernel⟩
set_option maxRecDepth 100000 in
theorem cw_L_isFed : Cond.code yL_isFed cL_isFed 8 (some .boolean) ∈ lw_T := lw_T_mem (List.mem_of_getElem? (i := 917) (by decide +kernel)) (by decide +kernel)
set_option maxRecDepth 100000 in
theorem cx_L_isFed : Cond.initialized yL_isFed.cls ∈ lw_T := lw_T_mem (List.mem_of_getElem? (i := 25) (by decide +kernel)) (by decide +kernel)
set_option maxRecDepth 100000 in
theorem ct_L_isFed : Cond.static yL_isFed ∈ lw_T := lw_T_mem (List.mem_of_getElem? (i := 916) (by decide +kernel)) (by decide +kernel)
set_option maxRecDepth 100000 in
theorem mw_L_94 : Cond.methodLink RL 94 yL_isFed ∈ lw_T := lw_T_mem (List.mem_of_getElem? (i := 915) (by decide +kernel)) (by decide +kernel)
theorem ci_L_94 : CI RL 94 yL_isFed cL_isFed 8 (some .boolean) 2 := ⟨mw_L_94, cx_L_isFed, cw_L_isFed, by decide, by decide, by decide +kernel⟩
set_option maxRecDepth 100000 in
theorem cw_X4_addRack : Cond.code yX4_addRack cX4_addRack 6 (some .int) ∈ lw_T := lw_T_mem (List.mem_of_getElem? (i := 174) (by decide +kernel)) (by decide +kernel)
set_option maxRecDepth 100000 in
theorem cx_X4_addRack : Cond.initialized yX4_addRack.cls ∈ lw_T := lw_T_mem (List.mem_of_getElem? (i := 26) (by decide +kernel)) (by decide +kernel)
set_option maxRecDepth 100000 in
theorem ct_X4_addRack : Cond.instanceMethod yX4_addRack ∈ lw_T := lw_T_mem (List.mem_of_getElem? (i := 172) (by decide +kernel)) (by decide +kernel)
set_option maxRecDepth 100000 in
theorem cs_X4_addRack : Cond.selects yX4_addRack.cls yX4_addRack yX4_addRack ∈ lw_T := lw_T_mem (List.mem_of_getElem? (i := 173) (by decide +kernel)) (by decide +kernel)
set_option maxRecDepth 100000 in
theorem mw_L_99 : Cond.methodLink RL 99 yX4_addRack ∈ lw_T := lw_T_mem (List.mem_of_getElem? (i := 171) (by decide +kernel)) (by decide +kernel)
theorem ci_L_99 : CI RL 99 yX4_addRack cX4_addRack 6 (some .int) 4 := ⟨mw_L_99, cx_X4_addRack, cw_X4_addRack, by decide, by decide, by decide +kernel⟩
set_option maxRecDepth 100000 in
theorem cw_X4_weightOf : Cond.code yX4_weightOf cX4_weightOf 2 (some .int) ∈ lw_T := lw_T_mem (List.mem_of_getElem? (i := 794) (by decide +kernel)) (by decide +kernel)
set_option maxRecDepth 100000 in
theorem cx_X4_weightOf : Cond.initialized yX4_weightOf.cls ∈ lw_T := lw_T_mem (List.mem_of_getElem? (i := 26) (by decide +kernel)) (by decide +kernel)
set_option maxRecDepth 100000 in
theorem ct_X4_weightOf : Cond.instanceMethod yX4_weightOf ∈ lw_T := lw_T_mem (List.mem_of_getElem? (i := 792) (by decide +kernel)) (by decide +kernel)
set_option maxRecDepth 100000 in
theorem cs_X4_weightOf : Cond.selects yX4_weightOf.cls yX4_weightOf yX4_weightOf ∈ lw_T := lw_T_mem (List.mem_of_getElem? (i := 793) (by decide +kernel)) (by decide +kernel)
set_option maxRecDepth 100000 in
theorem mw_L_109 : Cond.methodLink RL 109 yX4_weightOf ∈ lw_T := lw_T_mem (List.mem_of_getElem? (i := 791) (by decide +kernel)) (by decide +kernel)
theorem ci_L_109 : CI RL 109 yX4_weightOf cX4_weightOf 2 (some .int) 1 := ⟨mw_L_109, cx_X4_weightOf, cw_X4_weightOf, by decide, by decide, by decide +kernel⟩
set_option maxRecDepth 100000 in
theorem cw_X4_switchFeed : Cond.code yX4_switchFeed cX4_switchFeed 4 (some .int) ∈ lw_T := lw_T_mem (List.mem_of_getElem? (i := 352) (by decide +kernel)) (by decide +kernel)
set_option maxRecDepth 100000 in
theorem cx_X4_switchFeed : Cond.initialized yX4_switchFeed.cls ∈ lw_T := lw_T_mem (List.mem_of_getElem? (i := 26) (by decide +kernel)) (by decide +kernel)
set_option maxRecDepth 100000 in
theorem ct_X4_switchFeed : Cond.instanceMethod yX4_switchFeed ∈ lw_T := lw_T_mem (List.mem_of_getElem? (i := 350) (by decide +kernel)) (by decide +kernel)
set_option maxRecDepth 100000 in
theorem cs_X4_switchFeed : Cond.selects yX4_switchFeed.cls yX4_switchFeed yX4_switchFeed ∈ lw_T := lw_T_mem (List.mem_of_getElem? (i := 351) (by decide +kernel)) (by decide +kernel)
set_option maxRecDepth 100000 in
theorem mw_L_116 : Cond.methodLink RL 116 yX4_switchFeed ∈ lw_T := lw_T_mem (List.mem_of_getElem? (i := 349) (by decide +kernel)) (by decide +kernel)
theorem ci_L_116 : CI RL 116 yX4_switchFeed cX4_switchFeed 4 (some .int) 1 := ⟨mw_L_116, cx_X4_switchFeed, cw_X4_switchFeed, by decide, by decide, by decide +kernel⟩
set_option maxRecDepth 100000 in
theorem cw_X4_pack : Cond.code yX4_pack cX4_pack 4 (some .int) ∈ lw_T := lw_T_mem (List.mem_of_getElem? (i := 450) (by decide +kernel)) (by decide +kernel)
set_option maxRecDepth 100000 in
theorem cx_X4_pack : Cond.initialized yX4_pack.cls ∈ lw_T := lw_T_mem (List.mem_of_getElem? (i := 26) (by decide +kernel)) (by decide +kernel)
set_option maxRecDepth 100000 in
theorem ct_X4_pack : Cond.instanceMethod yX4_pack ∈ lw_T := lw_T_mem (List.mem_of_getElem? (i := 448) (by decide +kernel)) (by decide +kernel)
set_option maxRecDepth 100000 in
theorem cs_X4_pack : Cond.selects yX4_pack.cls yX4_pack yX4_pack ∈ lw_T := lw_T_mem (List.mem_of_getElem? (i := 449) (by decide +kernel)) (by decide +kernel)
set_option maxRecDepth 100000 in
theorem mw_L_119 : Cond.methodLink RL 119 yX4_pack ∈ lw_T := lw_T_mem (List.mem_of_getElem? (i := 447) (by decide +kernel)) (by decide +kernel)
theorem ci_L_119 : CI RL 119 yX4_pack cX4_pack 4 (some .int) 0 := ⟨mw_L_119, cx_X4_pack, cw_X4_pack, by decide, by decide, by decide +kernel⟩
set_option maxRecDepth 100000 in
theorem cw_L_isTold : Cond.code yL_isTold cL_isTold 11 (some .boolean) ∈ lw_T := lw_T_mem (List.mem_of_getElem? (i := 936) (by decide +kernel)) (by decide +kernel)
set_option maxRecDepth 100000 in
theorem cx_L_isTold : Cond.initialized yL_isTold.cls ∈ lw_T := lw_T_mem (List.mem_of_getElem? (i := 25) (by decide +kernel)) (by decide +kernel)
set_option maxRecDepth 100000 in
theorem ct_L_isTold : Cond.static yL_isTold ∈ lw_T := lw_T_mem (List.mem_of_getElem? (i := 935) (by decide +kernel)) (by decide +kernel)
set_option maxRecDepth 100000 in
theorem mw_L_122 : Cond.methodLink RL 122 yL_isTold ∈ lw_T := lw_T_mem (List.mem_of_getElem? (i := 934) (by decide +kernel)) (by decide +kernel)
theorem ci_L_122 : CI RL 122 yL_isTold cL_isTold 11 (some .boolean) 5 := ⟨mw_L_122, cx_L_isTold, cw_L_isTold, by decide, by decide, by decide +kernel⟩
set_option maxRecDepth 100000 in
theorem tw_m_Jxa1e45_1 : Cond.methodLink RJxa1e45 1 objectInit ∈ lw_T := lw_T_mem (List.mem_of_getElem? (i := 78) (by decide +kernel)) (by decide +kernel)
set_option maxRecDepth 100000 in
theorem cw_Jxa1e45_init_da8c8 : Cond.code yJxa1e45_init_da8c8 cJxa1e45_init_da8c8 1 none ∈ lw_T := lw_T_mem (List.mem_of_getElem? (i := 77) (by decide +kernel)) (by decide +kernel)
set_option maxRecDepth 100000 in
theorem cx_Jxa1e45_init_da8c8 : Cond.initialized yJxa1e45_init_da8c8.cls ∈ lw_T := lw_T_mem (List.mem_of_getElem? (i := 28) (by decide +kernel)) (by decide +kernel)
set_option maxRecDepth 100000 in
theorem ct_Jxa1e45_init_da8c8 : Cond.instanceMethod yJxa1e45_init_da8c8 ∈ lw_T := lw_T_mem (List.mem_of_getElem? (i := 76) (by decide +kernel)) (by decide +kernel)
set_option maxRecDepth 100000 in
theorem mw_Jxc12de_1 : Cond.methodLink RJxc12de 1 yJxa1e45_init_da8c8 ∈ lw_T := lw_T_mem (List.mem_of_getElem? (i := 75) (by decide +kernel)) (by decide +kernel)
theorem ci_Jxc12de_1 : CI RJxc12de 1 yJxa1e45_init_da8c8 cJxa1e45_init_da8c8 1 none 0 := ⟨mw_Jxc12de_1, cx_Jxa1e45_init_da8c8, cw_Jxa1e45_init_da8c8, by decide, by decide, by decide +kernel⟩
set_option maxRecDepth 100000 in
theorem fw_Jxc12de_7 : Cond.fieldLink RJxc12de 7 "java/util/AbstractList" "modCount" "I" ∈ lw_T := lw_T_mem (List.mem_of_getElem? (i := 83) (by decide +kernel)) (by decide +kernel)
theorem fd_Jxc12de_7_2 : FD RJxc12de 7 2 0 := ⟨RJx4a65c, TJx4a65c, 3, "java/util/AbstractList", rfl, in_Jx4a65c, by decide, fw_Jxc12de_7, (fun s args x _ h => h)⟩
theorem fp_Jxc12de_7_2 : FP RJxc12de 7 2 0 .int false := ⟨RJx4a65c, TJx4a65c, 3, "java/util/AbstractList", tyJx4a65c, ⟨rfl, in_Jx4a65c, by decide, fw_Jxc12de_7, (fun s args x _ h => h)⟩, tyJx4a65c_ok, nmJx4a65c, by decide +kernel, rfl, fun h => by cases h⟩
set_option maxRecDepth 100000 in
theorem cw_Jxc12de_init_da8c8 : Cond.code yJxc12de_init_da8c8 cJxc12de_init_da8c8 1 none ∈ lw_T := lw_T_mem (List.mem_of_getElem? (i := 74) (by decide +kernel)) (by decide +kernel)
set_option maxRecDepth 100000 in
theorem cx_Jxc12de_init_da8c8 : Cond.initialized yJxc12de_init_da8c8.cls ∈ lw_T := lw_T_mem (List.mem_of_getElem? (i := 29) (by decide +kernel)) (by decide +kernel)
set_option maxRecDepth 100000 in
theorem ct_Jxc12de_init_da8c8 : Cond.instanceMethod yJxc12de_init_da8c8 ∈ lw_T := lw_T_mem (List.mem_of_getElem? (i := 73) (by decide +kernel)) (by decide +kernel)
set_option maxRecDepth 100000 in
theorem mw_Jx4a65c_1 : Cond.methodLink RJx4a65c 1 yJxc12de_init_da8c8 ∈ lw_T := lw_T_mem (List.mem_of_getElem? (i := 72) (by decide +kernel)) (by decide +kernel)
theorem ci_Jx4a65c_1 : CI RJx4a65c 1 yJxc12de_init_da8c8 cJxc12de_init_da8c8 1 none 0 := ⟨mw_Jx4a65c_1, cx_Jxc12de_init_da8c8, cw_Jxc12de_init_da8c8, by decide, by decide, by decide +kernel⟩
set_option maxRecDepth 100000 in
theorem tk_Jx4a65c_7 : Cond.classLink RJx4a65c 7 "java/lang/Object" ∈ lw_T := lw_T_mem (List.mem_of_getElem? (i := 348) (by decide +kernel)) (by decide +kernel)
set_option maxRecDepth 100000 in
theorem fw_Jx4a65c_9 : Cond.fieldLink RJx4a65c 9 "java/util/ArrayList" "elementData" "[Ljava/lang/Object;" ∈ lw_T := lw_T_mem (List.mem_of_getElem? (i := 81) (by decide +kernel)) (by decide +kernel)
theorem fd_Jx4a65c_9_2 : FD RJx4a65c 9 2 1 := ⟨RJx4a65c, TJx4a65c, 3, "java/util/ArrayList", rfl, in_Jx4a65c, by decide, fw_Jx4a65c_9, (fun s args x _ h => h)⟩
theorem fp_Jx4a65c_9_2 : FP RJx4a65c 9 2 1 (.array (.object "java/lang/Object")) false := ⟨RJx4a65c, TJx4a65c, 3, "java/util/ArrayList", tyJx4a65c, ⟨rfl, in_Jx4a65c, by decide, fw_Jx4a65c_9, (fun s args x _ h => h)⟩, tyJx4a65c_ok, nmJx4a65c, by decide +kernel, rfl, fun h => by cases h⟩
set_option maxRecDepth 100000 in
theorem tk_Jx4a65c_20 : Cond.classLink RJx4a65c 20 "java/lang/StringBuilder" ∈ lw_T := lw_T_mem (List.mem_of_getElem? (i := 476) (by decide +kernel)) (by decide +kernel)
set_option maxRecDepth 100000 in
theorem cw_J4_init_da8c8 : Cond.code yJ4_init_da8c8 cJ4_init_da8c8 1 none ∈ lw_T := lw_T_mem (List.mem_of_getElem? (i := 480) (by decide +kernel)) (by decide +kernel)
set_option maxRecDepth 100000 in
theorem cx_J4_init_da8c8 : Cond.initialized yJ4_init_da8c8.cls ∈ lw_T := lw_T_mem (List.mem_of_getElem? (i := 47) (by decide +kernel)) (by decide +kernel)
set_option maxRecDepth 100000 in
theorem ct_J4_init_da8c8 : Cond.instanceMethod yJ4_init_da8c8 ∈ lw_T := lw_T_mem (List.mem_of_getElem? (i := 479) (by decide +kernel)) (by decide +kernel)
set_option maxRecDepth 100000 in
theorem mw_Jx4a65c_22 : Cond.methodLink RJx4a65c 22 yJ4_init_da8c8 ∈ lw_T := lw_T_mem (List.mem_of_getElem? (i := 478) (by decide +kernel)) (by decide +kernel)
theorem ci_Jx4a65c_22 : CI RJx4a65c 22 yJ4_init_da8c8 cJ4_init_da8c8 1 none 0 := ⟨mw_Jx4a65c_22, cx_J4_init_da8c8, cw_J4_init_da8c8, by decide, by decide, by decide +kernel⟩
set_option maxRecDepth 100000 in
theorem cw_J4_append_15ec4 : Cond.code yJ4_append_15ec4 cJ4_append_15ec4 2 (some (.object "java/lang/StringBuilder")) ∈ lw_T := lw_T_mem (List.mem_of_getElem? (i := 511) (by decide +kernel)) (by decide +kernel)
set_option maxRecDepth 100000 in
theorem cx_J4_append_15ec4 : Cond.initialized yJ4_append_15ec4.cls ∈ lw_T := lw_T_mem (List.mem_of_getElem? (i := 47) (by decide +kernel)) (by decide +kernel)
set_option maxRecDepth 100000 in
theorem ct_J4_append_15ec4 : Cond.instanceMethod yJ4_append_15ec4 ∈ lw_T := lw_T_mem (List.mem_of_getElem? (i := 509) (by decide +kernel)) (by decide +kernel)
set_option maxRecDepth 100000 in
theorem cs_J4_append_15ec4 : Cond.selects yJ4_append_15ec4.cls yJ4_append_15ec4 yJ4_append_15ec4 ∈ lw_T := lw_T_mem (List.mem_of_getElem? (i := 510) (by decide +kernel)) (by decide +kernel)
set_option maxRecDepth 100000 in
theorem mw_Jx4a65c_25 : Cond.methodLink RJx4a65c 25 yJ4_append_15ec4 ∈ lw_T := lw_T_mem (List.mem_of_getElem? (i := 508) (by decide +kernel)) (by decide +kernel)
theorem ci_Jx4a65c_25 : CI RJx4a65c 25 yJ4_append_15ec4 cJ4_append_15ec4 2 (some (.object "java/lang/StringBuilder")) 1 := ⟨mw_Jx4a65c_25, cx_J4_append_15ec4, cw_J4_append_15ec4, by decide, by decide, by decide +kernel⟩
set_option maxRecDepth 100000 in
theorem cw_J4_append_bf812 : Cond.code yJ4_append_bf812 cJ4_append_bf812 2 (some (.object "java/lang/StringBuilder")) ∈ lw_T := lw_T_mem (List.mem_of_getElem? (i := 616) (by decide +kernel)) (by decide +kernel)
set_option maxRecDepth 100000 in
theorem cx_J4_append_bf812 : Cond.initialized yJ4_append_bf812.cls ∈ lw_T := lw_T_mem (List.mem_of_getElem? (i := 47) (by decide +kernel)) (by decide +kernel)
set_option maxRecDepth 100000 in
theorem ct_J4_append_bf812 : Cond.instanceMethod yJ4_append_bf812 ∈ lw_T := lw_T_mem (List.mem_of_getElem? (i := 614) (by decide +kernel)) (by decide +kernel)
set_option maxRecDepth 100000 in
theorem cs_J4_append_bf812 : Cond.selects yJ4_append_bf812.cls yJ4_append_bf812 yJ4_append_bf812 ∈ lw_T := lw_T_mem (List.mem_of_getElem? (i := 615) (by decide +kernel)) (by decide +kernel)
set_option maxRecDepth 100000 in
theorem mw_Jx4a65c_29 : Cond.methodLink RJx4a65c 29 yJ4_append_bf812 ∈ lw_T := lw_T_mem (List.mem_of_getElem? (i := 613) (by decide +kernel)) (by decide +kernel)
theorem ci_Jx4a65c_29 : CI RJx4a65c 29 yJ4_append_bf812 cJ4_append_bf812 2 (some (.object "java/lang/StringBuilder")) 1 := ⟨mw_Jx4a65c_29, cx_J4_append_bf812, cw_J4_append_bf812, by decide, by decide, by decide +kernel⟩
set_option maxRecDepth 100000 in
theorem cw_J4_toString_0e30d : Cond.code yJ4_toString_0e30d cJ4_toString_0e30d 1 (some (.object "java/lang/String")) ∈ lw_T := lw_T_mem (List.mem_of_getElem? (i := 642) (by decide +kernel)) (by decide +kernel)
set_option maxRecDepth 100000 in
theorem cx_J4_toString_0e30d : Cond.initialized yJ4_toString_0e30d.cls ∈ lw_T := lw_T_mem (List.mem_of_getElem? (i := 47) (by decide +kernel)) (by decide +kernel)
set_option maxRecDepth 100000 in
theorem ct_J4_toString_0e30d : Cond.instanceMethod yJ4_toString_0e30d ∈ lw_T := lw_T_mem (List.mem_of_getElem? (i := 640) (by decide +kernel)) (by decide +kernel)
set_option maxRecDepth 100000 in
theorem cs_J4_toString_0e30d : Cond.selects yJ4_toString_0e30d.cls yJ4_toString_0e30d yJ4_toString_0e30d ∈ lw_T := lw_T_mem (List.mem_of_getElem? (i := 641) (by decide +kernel)) (by decide +kernel)
set_option maxRecDepth 100000 in
theorem mw_Jx4a65c_32 : Cond.methodLink RJx4a65c 32 yJ4_toString_0e30d ∈ lw_T := lw_T_mem (List.mem_of_getElem? (i := 639) (by decide +kernel)) (by decide +kernel)
theorem ci_Jx4a65c_32 : CI RJx4a65c 32 yJ4_toString_0e30d cJ4_toString_0e30d 1 (some (.object "java/lang/String")) 0 := ⟨mw_Jx4a65c_32, cx_J4_toString_0e30d, cw_J4_toString_0e30d, by decide, by decide, by decide +kernel⟩
set_option maxRecDepth 100000 in
theorem fw_Jx4a65c_39 : Cond.fieldLink RJx4a65c 39 "java/util/ArrayList" "DEFAULTCAPACITY_EMPTY_ELEMENTDATA" "[Ljava/lang/Object;" ∈ lw_T := lw_T_mem (List.mem_of_getElem? (i := 79) (by decide +kernel)) (by decide +kernel)
set_option maxRecDepth 100000 in
theorem fw_Jx4a65c_48 : Cond.fieldLink RJx4a65c 48 "java/util/ArrayList" "size" "I" ∈ lw_T := lw_T_mem (List.mem_of_getElem? (i := 82) (by decide +kernel)) (by decide +kernel)
theorem fd_Jx4a65c_48_2 : FD RJx4a65c 48 2 2 := ⟨RJx4a65c, TJx4a65c, 3, "java/util/ArrayList", rfl, in_Jx4a65c, by decide, fw_Jx4a65c_48, (fun s args x _ h => h)⟩
theorem fp_Jx4a65c_48_2 : FP RJx4a65c 48 2 2 .int false := ⟨RJx4a65c, TJx4a65c, 3, "java/util/ArrayList", tyJx4a65c, ⟨rfl, in_Jx4a65c, by decide, fw_Jx4a65c_48, (fun s args x _ h => h)⟩, tyJx4a65c_ok, nmJx4a65c, by decide +kernel, rfl, fun h => by cases h⟩
set_option maxRecDepth 100000 in
theorem fw_Jx4a65c_63 : Cond.fieldLink RJx4a65c 63 "java/util/ArrayList" "modCount" "I" ∈ lw_T := lw_T_mem (List.mem_of_getElem? (i := 84) (by decide +kernel)) (by decide +kernel)
theorem fd_Jx4a65c_63_2 : FD RJx4a65c 63 2 0 := ⟨RJx4a65c, TJx4a65c, 3, "java/util/ArrayList", rfl, in_Jx4a65c, by decide, fw_Jx4a65c_63, same_mc⟩
theorem fp_Jx4a65c_63_2 : FP RJx4a65c 63 2 0 .int false := ⟨RJx4a65c, TJx4a65c, 3, "java/util/ArrayList", tyJx4a65c, ⟨rfl, in_Jx4a65c, by decide, fw_Jx4a65c_63, same_mc⟩, tyJx4a65c_ok, nmJx4a65c, by decide +kernel, rfl, fun h => by cases h⟩
set_option maxRecDepth 100000 in
theorem cw_J7_copyOf_1904c : Cond.code yJ7_copyOf_1904c cJ7_copyOf_1904c 2 (some (.array (.object "java/lang/Object"))) ∈ lw_T := lw_T_mem (List.mem_of_getElem? (i := 319) (by decide +kernel)) (by decide +kernel)
set_option maxRecDepth 100000 in
theorem cx_J7_copyOf_1904c : Cond.initialized yJ7_copyOf_1904c.cls ∈ lw_T := lw_T_mem (List.mem_of_getElem? (i := 31) (by decide +kernel)) (by decide +kernel)
set_option maxRecDepth 100000 in
theorem ct_J7_copyOf_1904c : Cond.static yJ7_copyOf_1904c ∈ lw_T := lw_T_mem (List.mem_of_getElem? (i := 318) (by decide +kernel)) (by decide +kernel)
set_option maxRecDepth 100000 in
theorem mw_Jx4a65c_66 : Cond.methodLink RJx4a65c 66 yJ7_copyOf_1904c ∈ lw_T := lw_T_mem (List.mem_of_getElem? (i := 317) (by decide +kernel)) (by decide +kernel)
theorem ci_Jx4a65c_66 : CI RJx4a65c 66 yJ7_copyOf_1904c cJ7_copyOf_1904c 2 (some (.array (.object "java/lang/Object"))) 2 := ⟨mw_Jx4a65c_66, cx_J7_copyOf_1904c, cw_J7_copyOf_1904c, by decide, by decide, by decide +kernel⟩
set_option maxRecDepth 100000 in
theorem cw_Jx4a65c_grow_92f84 : Cond.code yJx4a65c_grow_92f84 cJx4a65c_grow_92f84 4 (some (.array (.object "java/lang/Object"))) ∈ lw_T := lw_T_mem (List.mem_of_getElem? (i := 306) (by decide +kernel)) (by decide +kernel)
set_option maxRecDepth 100000 in
theorem cx_Jx4a65c_grow_92f84 : Cond.initialized yJx4a65c_grow_92f84.cls ∈ lw_T := lw_T_mem (List.mem_of_getElem? (i := 30) (by decide +kernel)) (by decide +kernel)
set_option maxRecDepth 100000 in
theorem ct_Jx4a65c_grow_92f84 : Cond.instanceMethod yJx4a65c_grow_92f84 ∈ lw_T := lw_T_mem (List.mem_of_getElem? (i := 305) (by decide +kernel)) (by decide +kernel)
set_option maxRecDepth 100000 in
theorem cs_Jx4a65c_grow_92f84 : Cond.selects yJx4a65c_grow_92f84.cls yJx4a65c_grow_92f84 yJx4a65c_grow_92f84 ∈ lw_T := lw_T_mem (List.mem_of_getElem? (i := 3) (by decide +kernel)) (by decide +kernel)
set_option maxRecDepth 100000 in
theorem mw_Jx4a65c_69 : Cond.methodLink RJx4a65c 69 yJx4a65c_grow_92f84 ∈ lw_T := lw_T_mem (List.mem_of_getElem? (i := 303) (by decide +kernel)) (by decide +kernel)
theorem ci_Jx4a65c_69 : CI RJx4a65c 69 yJx4a65c_grow_92f84 cJx4a65c_grow_92f84 4 (some (.array (.object "java/lang/Object"))) 1 := ⟨mw_Jx4a65c_69, cx_Jx4a65c_grow_92f84, cw_Jx4a65c_grow_92f84, by decide, by decide, by decide +kernel⟩
set_option maxRecDepth 100000 in
theorem cw_J8_newLength_cabcc : Cond.code yJ8_newLength_cabcc cJ8_newLength_cabcc 4 (some .int) ∈ lw_T := lw_T_mem (List.mem_of_getElem? (i := 309) (by decide +kernel)) (by decide +kernel)
set_option maxRecDepth 100000 in
theorem cx_J8_newLength_cabcc : Cond.initialized yJ8_newLength_cabcc.cls ∈ lw_T := lw_T_mem (List.mem_of_getElem? (i := 44) (by decide +kernel)) (by decide +kernel)
set_option maxRecDepth 100000 in
theorem ct_J8_newLength_cabcc : Cond.static yJ8_newLength_cabcc ∈ lw_T := lw_T_mem (List.mem_of_getElem? (i := 308) (by decide +kernel)) (by decide +kernel)
set_option maxRecDepth 100000 in
theorem mw_Jx4a65c_73 : Cond.methodLink RJx4a65c 73 yJ8_newLength_cabcc ∈ lw_T := lw_T_mem (List.mem_of_getElem? (i := 307) (by decide +kernel)) (by decide +kernel)
theorem ci_Jx4a65c_73 : CI RJx4a65c 73 yJ8_newLength_cabcc cJ8_newLength_cabcc 4 (some .int) 3 := ⟨mw_Jx4a65c_73, cx_J8_newLength_cabcc, cw_J8_newLength_cabcc, by decide, by decide, by decide +kernel⟩
set_option maxRecDepth 100000 in
theorem mw_Jx4a65c_79 : Cond.methodLink RJx4a65c 79 yJ9_max_7cf53 ∈ lw_T := lw_T_mem (List.mem_of_getElem? (i := 347) (by decide +kernel)) (by decide +kernel)
theorem ci_Jx4a65c_79 : CI RJx4a65c 79 yJ9_max_7cf53 cJ9_max_7cf53 2 (some .int) 2 := ⟨mw_Jx4a65c_79, cx_J9_max_7cf53, cw_J9_max_7cf53, by decide, by decide, by decide +kernel⟩
set_option maxRecDepth 100000 in
theorem cw_J15_checkIndex_7cf53 : Cond.code yJ15_checkIndex_7cf53 cJ15_checkIndex_7cf53 2 (some .int) ∈ lw_T := lw_T_mem (List.mem_of_getElem? (i := 362) (by decide +kernel)) (by decide +kernel)
set_option maxRecDepth 100000 in
theorem cx_J15_checkIndex_7cf53 : Cond.initialized yJ15_checkIndex_7cf53.cls ∈ lw_T := lw_T_mem (List.mem_of_getElem? (i := 33) (by decide +kernel)) (by decide +kernel)
set_option maxRecDepth 100000 in
theorem ct_J15_checkIndex_7cf53 : Cond.static yJ15_checkIndex_7cf53 ∈ lw_T := lw_T_mem (List.mem_of_getElem? (i := 361) (by decide +kernel)) (by decide +kernel)
set_option maxRecDepth 100000 in
theorem mw_Jx4a65c_118 : Cond.methodLink RJx4a65c 118 yJ15_checkIndex_7cf53 ∈ lw_T := lw_T_mem (List.mem_of_getElem? (i := 360) (by decide +kernel)) (by decide +kernel)
theorem ci_Jx4a65c_118 : CI RJx4a65c 118 yJ15_checkIndex_7cf53 cJ15_checkIndex_7cf53 2 (some .int) 2 := ⟨mw_Jx4a65c_118, cx_J15_checkIndex_7cf53, cw_J15_checkIndex_7cf53, by decide, by decide, by decide +kernel⟩
set_option maxRecDepth 100000 in
theorem cw_Jx4a65c_elementData_915e3 : Cond.code yJx4a65c_elementData_915e3 cJx4a65c_elementData_915e3 2 (some (.object "java/lang/Object")) ∈ lw_T := lw_T_mem (List.mem_of_getElem? (i := 369) (by decide +kernel)) (by decide +kernel)
set_option maxRecDepth 100000 in
theorem cx_Jx4a65c_elementData_915e3 : Cond.initialized yJx4a65c_elementData_915e3.cls ∈ lw_T := lw_T_mem (List.mem_of_getElem? (i := 30) (by decide +kernel)) (by decide +kernel)
set_option maxRecDepth 100000 in
theorem ct_Jx4a65c_elementData_915e3 : Cond.instanceMethod yJx4a65c_elementData_915e3 ∈ lw_T := lw_T_mem (List.mem_of_getElem? (i := 367) (by decide +kernel)) (by decide +kernel)
set_option maxRecDepth 100000 in
theorem cs_Jx4a65c_elementData_915e3 : Cond.selects yJx4a65c_elementData_915e3.cls yJx4a65c_elementData_915e3 yJx4a65c_elementData_915e3 ∈ lw_T := lw_T_mem (List.mem_of_getElem? (i := 368) (by decide +kernel)) (by decide +kernel)
set_option maxRecDepth 100000 in
theorem mw_Jx4a65c_123 : Cond.methodLink RJx4a65c 123 yJx4a65c_elementData_915e3 ∈ lw_T := lw_T_mem (List.mem_of_getElem? (i := 366) (by decide +kernel)) (by decide +kernel)
theorem ci_Jx4a65c_123 : CI RJx4a65c 123 yJx4a65c_elementData_915e3 cJx4a65c_elementData_915e3 2 (some (.object "java/lang/Object")) 1 := ⟨mw_Jx4a65c_123, cx_Jx4a65c_elementData_915e3, cw_Jx4a65c_elementData_915e3, by decide, by decide, by decide +kernel⟩
set_option maxRecDepth 100000 in
theorem cw_Jx4a65c_grow_d5877 : Cond.code yJx4a65c_grow_d5877 cJx4a65c_grow_d5877 1 (some (.array (.object "java/lang/Object"))) ∈ lw_T := lw_T_mem (List.mem_of_getElem? (i := 302) (by decide +kernel)) (by decide +kernel)
set_option maxRecDepth 100000 in
theorem cx_Jx4a65c_grow_d5877 : Cond.initialized yJx4a65c_grow_d5877.cls ∈ lw_T := lw_T_mem (List.mem_of_getElem? (i := 30) (by decide +kernel)) (by decide +kernel)
set_option maxRecDepth 100000 in
theorem ct_Jx4a65c_grow_d5877 : Cond.instanceMethod yJx4a65c_grow_d5877 ∈ lw_T := lw_T_mem (List.mem_of_getElem? (i := 301) (by decide +kernel)) (by decide +kernel)
set_option maxRecDepth 100000 in
theorem cs_Jx4a65c_grow_d5877 : Cond.selects yJx4a65c_grow_d5877.cls yJx4a65c_grow_d5877 yJx4a65c_grow_d5877 ∈ lw_T := lw_T_mem (List.mem_of_getElem? (i := 2) (by decide +kernel)) (by decide +kernel)
set_option maxRecDepth 100000 in
theorem mw_Jx4a65c_129 : Cond.methodLink RJx4a65c 129 yJx4a65c_grow_d5877 ∈ lw_T := lw_T_mem (List.mem_of_getElem? (i := 299) (by decide +kernel)) (by decide +kernel)
theorem ci_Jx4a65c_129 : CI RJx4a65c 129 yJx4a65c_grow_d5877 cJx4a65c_grow_d5877 1 (some (.array (.object "java/lang/Object"))) 0 := ⟨mw_Jx4a65c_129, cx_Jx4a65c_grow_d5877, cw_Jx4a65c_grow_d5877, by decide, by decide, by decide +kernel⟩
set_option maxRecDepth 100000 in
theorem cw_Jx4a65c_add_72be8 : Cond.code yJx4a65c_add_72be8 cJx4a65c_add_72be8 4 none ∈ lw_T := lw_T_mem (List.mem_of_getElem? (i := 298) (by decide +kernel)) (by decide +kernel)
set_option maxRecDepth 100000 in
theorem cx_Jx4a65c_add_72be8 : Cond.initialized yJx4a65c_add_72be8.cls ∈ lw_T := lw_T_mem (List.mem_of_getElem? (i := 30) (by decide +kernel)) (by decide +kernel)
set_option maxRecDepth 100000 in
theorem ct_Jx4a65c_add_72be8 : Cond.instanceMethod yJx4a65c_add_72be8 ∈ lw_T := lw_T_mem (List.mem_of_getElem? (i := 297) (by decide +kernel)) (by decide +kernel)
set_option maxRecDepth 100000 in
theorem cs_Jx4a65c_add_72be8 : Cond.selects yJx4a65c_add_72be8.cls yJx4a65c_add_72be8 yJx4a65c_add_72be8 ∈ lw_T := lw_T_mem (List.mem_of_getElem? (i := 1) (by decide +kernel)) (by decide +kernel)
set_option maxRecDepth 100000 in
theorem mw_Jx4a65c_131 : Cond.methodLink RJx4a65c 131 yJx4a65c_add_72be8 ∈ lw_T := lw_T_mem (List.mem_of_getElem? (i := 295) (by decide +kernel)) (by decide +kernel)
theorem ci_Jx4a65c_131 : CI RJx4a65c 131 yJx4a65c_add_72be8 cJx4a65c_add_72be8 4 none 3 := ⟨mw_Jx4a65c_131, cx_Jx4a65c_add_72be8, cw_Jx4a65c_add_72be8, by decide, by decide, by decide +kernel⟩
set_option maxRecDepth 100000 in
theorem cw_Jx4a65c_rangeCheckForAdd_d00df : Cond.code yJx4a65c_rangeCheckForAdd_d00df cJx4a65c_rangeCheckForAdd_d00df 2 none ∈ lw_T := lw_T_mem (List.mem_of_getElem? (i := 470) (by decide +kernel)) (by decide +kernel)
set_option maxRecDepth 100000 in
theorem cx_Jx4a65c_rangeCheckForAdd_d00df : Cond.initialized yJx4a65c_rangeCheckForAdd_d00df.cls ∈ lw_T := lw_T_mem (List.mem_of_getElem? (i := 30) (by decide +kernel)) (by decide +kernel)
set_option maxRecDepth 100000 in
theorem ct_Jx4a65c_rangeCheckForAdd_d00df : Cond.instanceMethod yJx4a65c_rangeCheckForAdd_d00df ∈ lw_T := lw_T_mem (List.mem_of_getElem? (i := 469) (by decide +kernel)) (by decide +kernel)
set_option maxRecDepth 100000 in
theorem cs_Jx4a65c_rangeCheckForAdd_d00df : Cond.selects yJx4a65c_rangeCheckForAdd_d00df.cls yJx4a65c_rangeCheckForAdd_d00df yJx4a65c_rangeCheckForAdd_d00df ∈ lw_T := lw_T_mem (List.mem_of_getElem? (i := 10) (by decide +kernel)) (by decide +kernel)
set_option maxRecDepth 100000 in
theorem mw_Jx4a65c_135 : Cond.methodLink RJx4a65c 135 yJx4a65c_rangeCheckForAdd_d00df ∈ lw_T := lw_T_mem (List.mem_of_getElem? (i := 467) (by decide +kernel)) (by decide +kernel)
theorem ci_Jx4a65c_135 : CI RJx4a65c 135 yJx4a65c_rangeCheckForAdd_d00df cJx4a65c_rangeCheckForAdd_d00df 2 none 1 := ⟨mw_Jx4a65c_135, cx_Jx4a65c_rangeCheckForAdd_d00df, cw_Jx4a65c_rangeCheckForAdd_d00df, by decide, by decide, by decide +kernel⟩
set_option maxRecDepth 100000 in
theorem cw_Jx4a65c_fastRemove_b59b0 : Cond.code yJx4a65c_fastRemove_b59b0 cJx4a65c_fastRemove_b59b0 4 none ∈ lw_T := lw_T_mem (List.mem_of_getElem? (i := 444) (by decide +kernel)) (by decide +kernel)
set_option maxRecDepth 100000 in
theorem cx_Jx4a65c_fastRemove_b59b0 : Cond.initialized yJx4a65c_fastRemove_b59b0.cls ∈ lw_T := lw_T_mem (List.mem_of_getElem? (i := 30) (by decide +kernel)) (by decide +kernel)
set_option maxRecDepth 100000 in
theorem ct_Jx4a65c_fastRemove_b59b0 : Cond.instanceMethod yJx4a65c_fastRemove_b59b0 ∈ lw_T := lw_T_mem (List.mem_of_getElem? (i := 443) (by decide +kernel)) (by decide +kernel)
set_option maxRecDepth 100000 in
theorem cs_Jx4a65c_fastRemove_b59b0 : Cond.selects yJx4a65c_fastRemove_b59b0.cls yJx4a65c_fastRemove_b59b0 yJx4a65c_fastRemove_b59b0 ∈ lw_T := lw_T_mem (List.mem_of_getElem? (i := 8) (by decide +kernel)) (by decide +kernel)
set_option maxRecDepth 100000 in
theorem mw_Jx4a65c_144 : Cond.methodLink RJx4a65c 144 yJx4a65c_fastRemove_b59b0 ∈ lw_T := lw_T_mem (List.mem_of_getElem? (i := 441) (by decide +kernel)) (by decide +kernel)
theorem ci_Jx4a65c_144 : CI RJx4a65c 144 yJx4a65c_fastRemove_b59b0 cJx4a65c_fastRemove_b59b0 4 none 2 := ⟨mw_Jx4a65c_144, cx_Jx4a65c_fastRemove_b59b0, cw_Jx4a65c_fastRemove_b59b0, by decide, by decide, by decide +kernel⟩
set_option maxRecDepth 100000 in
theorem tk_Jx4a65c_187 : Cond.classLink RJx4a65c 187 "java/lang/IndexOutOfBoundsException" ∈ lw_T := lw_T_mem (List.mem_of_getElem? (i := 471) (by decide +kernel)) (by decide +kernel)
set_option maxRecDepth 100000 in
theorem cw_Jx4a65c_outOfBoundsMsg_b52d3 : Cond.code yJx4a65c_outOfBoundsMsg_b52d3 cJx4a65c_outOfBoundsMsg_b52d3 2 (some (.object "java/lang/String")) ∈ lw_T := lw_T_mem (List.mem_of_getElem? (i := 475) (by decide +kernel)) (by decide +kernel)
set_option maxRecDepth 100000 in
theorem cx_Jx4a65c_outOfBoundsMsg_b52d3 : Cond.initialized yJx4a65c_outOfBoundsMsg_b52d3.cls ∈ lw_T := lw_T_mem (List.mem_of_getElem? (i := 30) (by decide +kernel)) (by decide +kernel)
set_option maxRecDepth 100000 in
theorem ct_Jx4a65c_outOfBoundsMsg_b52d3 : Cond.instanceMethod yJx4a65c_outOfBoundsMsg_b52d3 ∈ lw_T := lw_T_mem (List.mem_of_getElem? (i := 474) (by decide +kernel)) (by decide +kernel)
set_option maxRecDepth 100000 in
theorem cs_Jx4a65c_outOfBoundsMsg_b52d3 : Cond.selects yJx4a65c_outOfBoundsMsg_b52d3.cls yJx4a65c_outOfBoundsMsg_b52d3 yJx4a65c_outOfBoundsMsg_b52d3 ∈ lw_T := lw_T_mem (List.mem_of_getElem? (i := 11) (by decide +kernel)) (by decide +kernel)
set_option maxRecDepth 100000 in
theorem mw_Jx4a65c_198 : Cond.methodLink RJx4a65c 198 yJx4a65c_outOfBoundsMsg_b52d3 ∈ lw_T := lw_T_mem (List.mem_of_getElem? (i := 472) (by decide +kernel)) (by decide +kernel)
theorem ci_Jx4a65c_198 : CI RJx4a65c 198 yJx4a65c_outOfBoundsMsg_b52d3 cJx4a65c_outOfBoundsMsg_b52d3 2 (some (.object "java/lang/String")) 1 := ⟨mw_Jx4a65c_198, cx_Jx4a65c_outOfBoundsMsg_b52d3, cw_Jx4a65c_outOfBoundsMsg_b52d3, by decide, by decide, by decide +kernel⟩
set_option maxRecDepth 100000 in
theorem tk_J7_2 : Cond.classLink RJ7 2 "java/lang/Object" ∈ lw_T := lw_T_mem (List.mem_of_getElem? (i := 340) (by decide +kernel)) (by decide +kernel)
set_option maxRecDepth 100000 in
theorem tk_J7_110 : Cond.classLink RJ7 110 "[Ljava/lang/Object;" ∈ lw_T := lw_T_mem (List.mem_of_getElem? (i := 338) (by decide +kernel)) (by decide +kernel)
set_option maxRecDepth 100000 in
theorem cw_J7_copyOf_6403c : Cond.code yJ7_copyOf_6403c cJ7_copyOf_6403c 4 (some (.array (.object "java/lang/Object"))) ∈ lw_T := lw_T_mem (List.mem_of_getElem? (i := 337) (by decide +kernel)) (by decide +kernel)
set_option maxRecDepth 100000 in
theorem cx_J7_copyOf_6403c : Cond.initialized yJ7_copyOf_6403c.cls ∈ lw_T := lw_T_mem (List.mem_of_getElem? (i := 31) (by decide +kernel)) (by decide +kernel)
set_option maxRecDepth 100000 in
theorem ct_J7_copyOf_6403c : Cond.static yJ7_copyOf_6403c ∈ lw_T := lw_T_mem (List.mem_of_getElem? (i := 336) (by decide +kernel)) (by decide +kernel)
set_option maxRecDepth 100000 in
theorem mw_J7_300 : Cond.methodLink RJ7 300 yJ7_copyOf_6403c ∈ lw_T := lw_T_mem (List.mem_of_getElem? (i := 335) (by decide +kernel)) (by decide +kernel)
theorem ci_J7_300 : CI RJ7 300 yJ7_copyOf_6403c cJ7_copyOf_6403c 4 (some (.array (.object "java/lang/Object"))) 3 := ⟨mw_J7_300, cx_J7_copyOf_6403c, cw_J7_copyOf_6403c, by decide, by decide, by decide +kernel⟩
set_option maxRecDepth 100000 in
theorem mw_J7_304 : Cond.methodLink RJ7 304 yJ9_min_7cf53 ∈ lw_T := lw_T_mem (List.mem_of_getElem? (i := 341) (by decide +kernel)) (by decide +kernel)
theorem ci_J7_304 : CI RJ7 304 yJ9_min_7cf53 cJ9_min_7cf53 2 (some .int) 2 := ⟨mw_J7_304, cx_J9_min_7cf53, cw_J9_min_7cf53, by decide, by decide, by decide +kernel⟩
set_option maxRecDepth 100000 in
theorem tk_J7_311 : Cond.classLink RJ7 311 "[B" ∈ lw_T := lw_T_mem (List.mem_of_getElem? (i := 538) (by decide +kernel)) (by decide +kernel)
set_option maxRecDepth 100000 in
theorem cw_J7_copyOfRangeByte_39247 : Cond.code yJ7_copyOfRangeByte_39247 cJ7_copyOfRangeByte_39247 5 (some (.array .byte)) ∈ lw_T := lw_T_mem (List.mem_of_getElem? (i := 671) (by decide +kernel)) (by decide +kernel)
set_option maxRecDepth 100000 in
theorem cx_J7_copyOfRangeByte_39247 : Cond.initialized yJ7_copyOfRangeByte_39247.cls ∈ lw_T := lw_T_mem (List.mem_of_getElem? (i := 31) (by decide +kernel)) (by decide +kernel)
set_option maxRecDepth 100000 in
theorem ct_J7_copyOfRangeByte_39247 : Cond.static yJ7_copyOfRangeByte_39247 ∈ lw_T := lw_T_mem (List.mem_of_getElem? (i := 670) (by decide +kernel)) (by decide +kernel)
set_option maxRecDepth 100000 in
theorem mw_J7_339 : Cond.methodLink RJ7 339 yJ7_copyOfRangeByte_39247 ∈ lw_T := lw_T_mem (List.mem_of_getElem? (i := 669) (by decide +kernel)) (by decide +kernel)
theorem ci_J7_339 : CI RJ7 339 yJ7_copyOfRangeByte_39247 cJ7_copyOfRangeByte_39247 5 (some (.array .byte)) 3 := ⟨mw_J7_339, cx_J7_copyOfRangeByte_39247, cw_J7_copyOfRangeByte_39247, by decide, by decide, by decide +kernel⟩
set_option maxRecDepth 100000 in
theorem cw_J7_checkLength_df160 : Cond.code yJ7_checkLength_df160 cJ7_checkLength_df160 2 none ∈ lw_T := lw_T_mem (List.mem_of_getElem? (i := 674) (by decide +kernel)) (by decide +kernel)
set_option maxRecDepth 100000 in
theorem cx_J7_checkLength_df160 : Cond.initialized yJ7_checkLength_df160.cls ∈ lw_T := lw_T_mem (List.mem_of_getElem? (i := 31) (by decide +kernel)) (by decide +kernel)
set_option maxRecDepth 100000 in
theorem ct_J7_checkLength_df160 : Cond.static yJ7_checkLength_df160 ∈ lw_T := lw_T_mem (List.mem_of_getElem? (i := 673) (by decide +kernel)) (by decide +kernel)
set_option maxRecDepth 100000 in
theorem mw_J7_343 : Cond.methodLink RJ7 343 yJ7_checkLength_df160 ∈ lw_T := lw_T_mem (List.mem_of_getElem? (i := 672) (by decide +kernel)) (by decide +kernel)
theorem ci_J7_343 : CI RJ7 343 yJ7_checkLength_df160 cJ7_checkLength_df160 2 none 2 := ⟨mw_J7_343, cx_J7_checkLength_df160, cw_J7_checkLength_df160, by decide, by decide, by decide +kernel⟩
set_option maxRecDepth 100000 in
theorem cw_J3_checkIndex_8e157 : Cond.code yJ3_checkIndex_8e157 cJ3_checkIndex_8e157 3 (some .int) ∈ lw_T := lw_T_mem (List.mem_of_getElem? (i := 365) (by decide +kernel)) (by decide +kernel)
set_option maxRecDepth 100000 in
theorem cx_J3_checkIndex_8e157 : Cond.initialized yJ3_checkIndex_8e157.cls ∈ lw_T := lw_T_mem (List.mem_of_getElem? (i := 34) (by decide +kernel)) (by decide +kernel)
set_option maxRecDepth 100000 in
theorem ct_J3_checkIndex_8e157 : Cond.static yJ3_checkIndex_8e157 ∈ lw_T := lw_T_mem (List.mem_of_getElem? (i := 364) (by decide +kernel)) (by decide +kernel)
set_option maxRecDepth 100000 in
theorem mw_J15_105 : Cond.methodLink RJ15 105 yJ3_checkIndex_8e157 ∈ lw_T := lw_T_mem (List.mem_of_getElem? (i := 363) (by decide +kernel)) (by decide +kernel)
theorem ci_J15_105 : CI RJ15 105 yJ3_checkIndex_8e157 cJ3_checkIndex_8e157 3 (some .int) 3 := ⟨mw_J15_105, cx_J3_checkIndex_8e157, cw_J3_checkIndex_8e157, by decide, by decide, by decide +kernel⟩
set_option maxRecDepth 100000 in
theorem mw_J8_194 : Cond.methodLink RJ8 194 yJ9_max_7cf53 ∈ lw_T := lw_T_mem (List.mem_of_getElem? (i := 310) (by decide +kernel)) (by decide +kernel)
theorem ci_J8_194 : CI RJ8 194 yJ9_max_7cf53 cJ9_max_7cf53 2 (some .int) 2 := ⟨mw_J8_194, cx_J9_max_7cf53, cw_J9_max_7cf53, by decide, by decide, by decide +kernel⟩
set_option maxRecDepth 100000 in
theorem cw_J8_hugeLength_7cf53 : Cond.code yJ8_hugeLength_7cf53 cJ8_hugeLength_7cf53 3 (some .int) ∈ lw_T := lw_T_mem (List.mem_of_getElem? (i := 316) (by decide +kernel)) (by decide +kernel)
set_option maxRecDepth 100000 in
theorem cx_J8_hugeLength_7cf53 : Cond.initialized yJ8_hugeLength_7cf53.cls ∈ lw_T := lw_T_mem (List.mem_of_getElem? (i := 44) (by decide +kernel)) (by decide +kernel)
set_option maxRecDepth 100000 in
theorem ct_J8_hugeLength_7cf53 : Cond.static yJ8_hugeLength_7cf53 ∈ lw_T := lw_T_mem (List.mem_of_getElem? (i := 315) (by decide +kernel)) (by decide +kernel)
set_option maxRecDepth 100000 in
theorem mw_J8_201 : Cond.methodLink RJ8 201 yJ8_hugeLength_7cf53 ∈ lw_T := lw_T_mem (List.mem_of_getElem? (i := 314) (by decide +kernel)) (by decide +kernel)
theorem ci_J8_201 : CI RJ8 201 yJ8_hugeLength_7cf53 cJ8_hugeLength_7cf53 3 (some .int) 2 := ⟨mw_J8_201, cx_J8_hugeLength_7cf53, cw_J8_hugeLength_7cf53, by decide, by decide, by decide +kernel⟩
