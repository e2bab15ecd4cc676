set_option maxRecDepth 100000 in
theorem in_Jx4a65c : ∀ w ∈ u_ws RJx4a65c TJx4a65c 3, w ∈ lw_T := fun w hw => lw_T_mem ((by decide +kernel : ∀ w ∈ u_ws RJx4a65c TJx4a65c 3, w ∈ lw_tbl) w hw) ((by decide +kernel : ∀ w ∈ u_ws RJx4a65c TJx4a65c 3, q_lasts w = true) w hw)
set_option maxRecDepth 100000 in
theorem in_X0 : ∀ w ∈ u_ws RX0 TX0 5, w ∈ lw_T := fun w hw => lw_T_mem ((by decide +kernel : ∀ w ∈ u_ws RX0 TX0 5, w ∈ lw_tbl) w hw) ((by decide +kernel : ∀ w ∈ u_ws RX0 TX0 5, q_lasts w = true) w hw)
set_option maxRecDepth 100000 in
theorem in_X1 : ∀ w ∈ u_ws RX1 TX1 7, w ∈ lw_T := fun w hw => lw_T_mem ((by decide +kernel : ∀ w ∈ u_ws RX1 TX1 7, w ∈ lw_tbl) w hw) ((by decide +kernel : ∀ w ∈ u_ws RX1 TX1 7, q_lasts w = true) w hw)
set_option maxRecDepth 100000 in
theorem in_X2 : ∀ w ∈ u_ws RX2 TX2 4, w ∈ lw_T := fun w hw => lw_T_mem ((by decide +kernel : ∀ w ∈ u_ws RX2 TX2 4, w ∈ lw_tbl) w hw) ((by decide +kernel : ∀ w ∈ u_ws RX2 TX2 4, q_lasts w = true) w hw)
set_option maxRecDepth 100000 in
theorem in_X3 : ∀ w ∈ u_ws RX3 TX3 4, w ∈ lw_T := fun w hw => lw_T_mem ((by decide +kernel : ∀ w ∈ u_ws RX3 TX3 4, w ∈ lw_tbl) w hw) ((by decide +kernel : ∀ w ∈ u_ws RX3 TX3 4, q_lasts w = true) w hw)
set_option maxRecDepth 100000 in
theorem in_X4 : ∀ w ∈ u_ws RX4 TX4 7, w ∈ lw_T := fun w hw => lw_T_mem ((by decide +kernel : ∀ w ∈ u_ws RX4 TX4 7, w ∈ lw_tbl) w hw) ((by decide +kernel : ∀ w ∈ u_ws RX4 TX4 7, q_lasts w = true) w hw)
set_option maxRecDepth 100000 in
theorem in_X5 : ∀ w ∈ u_ws RX5 TX5 21, w ∈ lw_T := fun w hw => lw_T_mem ((by decide +kernel : ∀ w ∈ u_ws RX5 TX5 21, w ∈ lw_tbl) w hw) ((by decide +kernel : ∀ w ∈ u_ws RX5 TX5 21, q_lasts w = true) w hw)
set_option maxRecDepth 100000 in
theorem tw_oi : Cond.instanceMethod objectInit ∈ lw_T := lw_T_mem (by decide +kernel) (by decide +kernel)
set_option maxRecDepth 100000 in
theorem tw_oc : Cond.code objectInit ⟨#[0xb1]⟩ 1 none ∈ lw_T := lw_T_mem (by decide +kernel) (by decide +kernel)
set_option maxRecDepth 100000 in
theorem tw_sf : Cond.sameField "java/util/ArrayList" "java/util/AbstractList" "modCount" "I" ∈ lw_T := lw_T_mem (List.mem_of_getElem? (i := 104) (by decide +kernel)) (by decide +kernel)
theorem same_mc : ∀ (s : State) (args : Array Value) (x : ClassId × Class × Nat × Field), (∀ w ∈ lw_T, w.before args s = true) → s.fieldFound? "java/util/AbstractList" "modCount" "I" = some x → s.fieldFound? "java/util/ArrayList" "modCount" "I" = some x := by
  intro s args x h hx
  have hb := h _ tw_sf
  cases hr : s.fieldFound? "java/util/ArrayList" "modCount" "I" with
  | none => simp [Cond.before, Cond.holds, Cond.value, hr] at hb
  | some y =>
    obtain ⟨c9, k9, i9, f9⟩ := y
    have h2 := Cond.sameField_spec hr hb
    rw [hx] at h2
    exact h2.symm
set_option maxRecDepth 100000 in
theorem tw_m_X4_3 : Cond.methodLink RX4 3 objectInit ∈ lw_T := lw_T_mem (List.mem_of_getElem? (i := 77) (by decide +kernel)) (by decide +kernel)
set_option maxRecDepth 100000 in
theorem tk_X4_9 : Cond.classLink RX4 9 "RackPlanner$Site" ∈ lw_T := lw_T_mem (List.mem_of_getElem? (i := 80) (by decide +kernel)) (by decide +kernel)
set_option maxRecDepth 100000 in
theorem iw_X4_9 : Cond.instantiable RX3 4 ∈ lw_T := lw_T_mem (List.mem_of_getElem? (i := 81) (by decide +kernel)) (by decide +kernel)
set_option maxRecDepth 100000 in
theorem ix_X4_9 : Cond.initialized RX3 ∈ lw_T := lw_T_mem (List.mem_of_getElem? (i := 45) (by decide +kernel)) (by decide +kernel)
theorem fn_X4_9 : FN RX4 9 6 4 [.null, .null, .null, .null] := ⟨RX3, TX3, tyX3, rfl, in_X3, tyX3_ok, tk_X4_9, iw_X4_9, ix_X4_9, by intro j hj; rcases (show j = 0 ∨ j = 1 ∨ j = 2 ∨ j = 3 by omega) with rfl | rfl | rfl | rfl <;> rfl⟩
set_option maxRecDepth 100000 in
theorem cw_X3_init : Cond.code yX3_init cX3_init 1 none ∈ lw_T := lw_T_mem (List.mem_of_getElem? (i := 84) (by decide +kernel)) (by decide +kernel)
set_option maxRecDepth 100000 in
theorem cx_X3_init : Cond.initialized yX3_init.cls ∈ lw_T := lw_T_mem (List.mem_of_getElem? (i := 45) (by decide +kernel)) (by decide +kernel)
set_option maxRecDepth 100000 in
theorem ct_X3_init : Cond.instanceMethod yX3_init ∈ lw_T := lw_T_mem (List.mem_of_getElem? (i := 83) (by decide +kernel)) (by decide +kernel)
set_option maxRecDepth 100000 in
theorem mw_X4_11 : Cond.methodLink RX4 11 yX3_init ∈ lw_T := lw_T_mem (List.mem_of_getElem? (i := 82) (by decide +kernel)) (by decide +kernel)
theorem ci_X4_11 : CI RX4 11 yX3_init cX3_init 1 none 0 := ⟨mw_X4_11, cx_X3_init, cw_X3_init, by decide, by decide, by decide +kernel⟩
set_option maxRecDepth 100000 in
theorem fw_X4_12 : Cond.fieldLink RX4 12 "RackPlanner" "site" "LRackPlanner$Site;" ∈ lw_T := lw_T_mem (List.mem_of_getElem? (i := 168) (by decide +kernel)) (by decide +kernel)
theorem fd_X4_12_7 : FD RX4 12 7 0 := ⟨RX4, TX4, 7, "RackPlanner", rfl, in_X4, by decide, fw_X4_12, (fun s args x _ h => h)⟩
theorem fp_X4_12_7 : FP RX4 12 7 0 (.object "RackPlanner$Site") true := ⟨RX4, TX4, 7, "RackPlanner", tyX4, ⟨rfl, in_X4, by decide, fw_X4_12, (fun s args x _ h => h)⟩, tyX4_ok, nmX4, by decide +kernel, rfl, fun _ => rfl⟩
set_option maxRecDepth 100000 in
theorem fw_X4_16 : Cond.fieldLink RX4 16 "RackPlanner" "failed" "[Z" ∈ lw_T := lw_T_mem (List.mem_of_getElem? (i := 169) (by decide +kernel)) (by decide +kernel)
theorem fd_X4_16_7 : FD RX4 16 7 1 := ⟨RX4, TX4, 7, "RackPlanner", rfl, in_X4, by decide, fw_X4_16, (fun s args x _ h => h)⟩
theorem fp_X4_16_7 : FP RX4 16 7 1 (.array .boolean) true := ⟨RX4, TX4, 7, "RackPlanner", tyX4, ⟨rfl, in_X4, by decide, fw_X4_16, (fun s args x _ h => h)⟩, tyX4_ok, nmX4, by decide +kernel, rfl, fun _ => rfl⟩
set_option maxRecDepth 100000 in
theorem tk_X4_20 : Cond.classLink RX4 20 "java/util/ArrayList" ∈ lw_T := lw_T_mem (List.mem_of_getElem? (i := 137) (by decide +kernel)) (by decide +kernel)
set_option maxRecDepth 100000 in
theorem iw_X4_20 : Cond.instantiable RJx4a65c 3 ∈ lw_T := lw_T_mem (List.mem_of_getElem? (i := 87) (by decide +kernel)) (by decide +kernel)
set_option maxRecDepth 100000 in
theorem ix_X4_20 : Cond.initialized RJx4a65c ∈ lw_T := lw_T_mem (List.mem_of_getElem? (i := 48) (by decide +kernel)) (by decide +kernel)
theorem fn_X4_20 : FN RX4 20 2 3 [.int 0, .null, .int 0] := ⟨RJx4a65c, TJx4a65c, tyJx4a65c, rfl, in_Jx4a65c, tyJx4a65c_ok, tk_X4_20, iw_X4_20, ix_X4_20, by intro j hj; rcases (show j = 0 ∨ j = 1 ∨ j = 2 by omega) with rfl | rfl | rfl <;> rfl⟩
set_option maxRecDepth 100000 in
theorem cw_Jx4a65c_init_da8c8 : Cond.code yJx4a65c_init_da8c8 cJx4a65c_init_da8c8 1 none ∈ lw_T := lw_T_mem (List.mem_of_getElem? (i := 90) (by decide +kernel)) (by decide +kernel)
set_option maxRecDepth 100000 in
theorem cx_Jx4a65c_init_da8c8 : Cond.initialized yJx4a65c_init_da8c8.cls ∈ lw_T := lw_T_mem (List.mem_of_getElem? (i := 48) (by decide +kernel)) (by decide +kernel)
set_option maxRecDepth 100000 in
theorem ct_Jx4a65c_init_da8c8 : Cond.instanceMethod yJx4a65c_init_da8c8 ∈ lw_T := lw_T_mem (List.mem_of_getElem? (i := 89) (by decide +kernel)) (by decide +kernel)
set_option maxRecDepth 100000 in
theorem mw_X4_22 : Cond.methodLink RX4 22 yJx4a65c_init_da8c8 ∈ lw_T := lw_T_mem (List.mem_of_getElem? (i := 138) (by decide +kernel)) (by decide +kernel)
theorem ci_X4_22 : CI RX4 22 yJx4a65c_init_da8c8 cJx4a65c_init_da8c8 1 none 0 := ⟨mw_X4_22, cx_Jx4a65c_init_da8c8, cw_Jx4a65c_init_da8c8, by decide, by decide, by decide +kernel⟩
set_option maxRecDepth 100000 in
theorem fw_X4_23 : Cond.fieldLink RX4 23 "RackPlanner" "placed" "Ljava/util/ArrayList;" ∈ lw_T := lw_T_mem (List.mem_of_getElem? (i := 170) (by decide +kernel)) (by decide +kernel)
theorem fd_X4_23_7 : FD RX4 23 7 2 := ⟨RX4, TX4, 7, "RackPlanner", rfl, in_X4, by decide, fw_X4_23, (fun s args x _ h => h)⟩
theorem fp_X4_23_7 : FP RX4 23 7 2 (.object "java/util/ArrayList") true := ⟨RX4, TX4, 7, "RackPlanner", tyX4, ⟨rfl, in_X4, by decide, fw_X4_23, (fun s args x _ h => h)⟩, tyX4_ok, nmX4, by decide +kernel, rfl, fun _ => rfl⟩
set_option maxRecDepth 100000 in
theorem fw_X4_27 : Cond.fieldLink RX4 27 "RackPlanner" "packing" "Ljava/util/ArrayList;" ∈ lw_T := lw_T_mem (List.mem_of_getElem? (i := 171) (by decide +kernel)) (by decide +kernel)
theorem fd_X4_27_7 : FD RX4 27 7 3 := ⟨RX4, TX4, 7, "RackPlanner", rfl, in_X4, by decide, fw_X4_27, (fun s args x _ h => h)⟩
theorem fp_X4_27_7 : FP RX4 27 7 3 (.object "java/util/ArrayList") true := ⟨RX4, TX4, 7, "RackPlanner", tyX4, ⟨rfl, in_X4, by decide, fw_X4_27, (fun s args x _ h => h)⟩, tyX4_ok, nmX4, by decide +kernel, rfl, fun _ => rfl⟩
set_option maxRecDepth 100000 in
theorem tk_X4_30 : Cond.classLink RX4 30 "RackPlanner$Layout" ∈ lw_T := lw_T_mem (List.mem_of_getElem? (i := 139) (by decide +kernel)) (by decide +kernel)
set_option maxRecDepth 100000 in
theorem iw_X4_30 : Cond.instantiable RX0 5 ∈ lw_T := lw_T_mem (List.mem_of_getElem? (i := 140) (by decide +kernel)) (by decide +kernel)
set_option maxRecDepth 100000 in
theorem ix_X4_30 : Cond.initialized RX0 ∈ lw_T := lw_T_mem (List.mem_of_getElem? (i := 50) (by decide +kernel)) (by decide +kernel)
theorem fn_X4_30 : FN RX4 30 3 5 [.null, .null, .null, .null, .null] := ⟨RX0, TX0, tyX0, rfl, in_X0, tyX0_ok, tk_X4_30, iw_X4_30, ix_X4_30, by intro j hj; rcases (show j = 0 ∨ j = 1 ∨ j = 2 ∨ j = 3 ∨ j = 4 by omega) with rfl | rfl | rfl | rfl | rfl <;> rfl⟩
set_option maxRecDepth 100000 in
theorem cw_X0_init : Cond.code yX0_init cX0_init 2 none ∈ lw_T := lw_T_mem (List.mem_of_getElem? (i := 143) (by decide +kernel)) (by decide +kernel)
set_option maxRecDepth 100000 in
theorem cx_X0_init : Cond.initialized yX0_init.cls ∈ lw_T := lw_T_mem (List.mem_of_getElem? (i := 50) (by decide +kernel)) (by decide +kernel)
set_option maxRecDepth 100000 in
theorem ct_X0_init : Cond.instanceMethod yX0_init ∈ lw_T := lw_T_mem (List.mem_of_getElem? (i := 142) (by decide +kernel)) (by decide +kernel)
set_option maxRecDepth 100000 in
theorem mw_X4_32 : Cond.methodLink RX4 32 yX0_init ∈ lw_T := lw_T_mem (List.mem_of_getElem? (i := 141) (by decide +kernel)) (by decide +kernel)
theorem ci_X4_32 : CI RX4 32 yX0_init cX0_init 2 none 1 := ⟨mw_X4_32, cx_X0_init, cw_X0_init, by decide, by decide, by decide +kernel⟩
set_option maxRecDepth 100000 in
theorem fw_X4_35 : Cond.fieldLink RX4 35 "RackPlanner" "layout" "LRackPlanner$Layout;" ∈ lw_T := lw_T_mem (List.mem_of_getElem? (i := 172) (by decide +kernel)) (by decide +kernel)
theorem fd_X4_35_7 : FD RX4 35 7 4 := ⟨RX4, TX4, 7, "RackPlanner", rfl, in_X4, by decide, fw_X4_35, (fun s args x _ h => h)⟩
theorem fp_X4_35_7 : FP RX4 35 7 4 (.object "RackPlanner$Layout") false := ⟨RX4, TX4, 7, "RackPlanner", tyX4, ⟨rfl, in_X4, by decide, fw_X4_35, (fun s args x _ h => h)⟩, tyX4_ok, nmX4, by decide +kernel, rfl, fun h => by cases h⟩
set_option maxRecDepth 100000 in
theorem fw_X4_39 : Cond.fieldLink RX4 39 "RackPlanner" "spare" "LRackPlanner$Layout;" ∈ lw_T := lw_T_mem (List.mem_of_getElem? (i := 173) (by decide +kernel)) (by decide +kernel)
theorem fd_X4_39_7 : FD RX4 39 7 5 := ⟨RX4, TX4, 7, "RackPlanner", rfl, in_X4, by decide, fw_X4_39, (fun s args x _ h => h)⟩
theorem fp_X4_39_7 : FP RX4 39 7 5 (.object "RackPlanner$Layout") false := ⟨RX4, TX4, 7, "RackPlanner", tyX4, ⟨rfl, in_X4, by decide, fw_X4_39, (fun s args x _ h => h)⟩, tyX4_ok, nmX4, by decide +kernel, rfl, fun h => by cases h⟩
set_option maxRecDepth 100000 in
theorem fw_X4_42 : Cond.fieldLink RX4 42 "RackPlanner" "nextNumber" "I" ∈ lw_T := lw_T_mem (List.mem_of_getElem? (i := 174) (by decide +kernel)) (by decide +kernel)
theorem fd_X4_42_7 : FD RX4 42 7 6 := ⟨RX4, TX4, 7, "RackPlanner", rfl, in_X4, by decide, fw_X4_42, (fun s args x _ h => h)⟩
theorem fp_X4_42_7 : FP RX4 42 7 6 .int false := ⟨RX4, TX4, 7, "RackPlanner", tyX4, ⟨rfl, in_X4, by decide, fw_X4_42, (fun s args x _ h => h)⟩, tyX4_ok, nmX4, by decide +kernel, rfl, fun h => by cases h⟩
set_option maxRecDepth 100000 in
theorem cw_X4_requireRange : Cond.code yX4_requireRange cX4_requireRange 3 none ∈ lw_T := lw_T_mem (List.mem_of_getElem? (i := 699) (by decide +kernel)) (by decide +kernel)
set_option maxRecDepth 100000 in
theorem cx_X4_requireRange : Cond.initialized yX4_requireRange.cls ∈ lw_T := lw_T_mem (List.mem_of_getElem? (i := 44) (by decide +kernel)) (by decide +kernel)
set_option maxRecDepth 100000 in
theorem ct_X4_requireRange : Cond.static yX4_requireRange ∈ lw_T := lw_T_mem (List.mem_of_getElem? (i := 698) (by decide +kernel)) (by decide +kernel)
set_option maxRecDepth 100000 in
theorem mw_X4_46 : Cond.methodLink RX4 46 yX4_requireRange ∈ lw_T := lw_T_mem (List.mem_of_getElem? (i := 697) (by decide +kernel)) (by decide +kernel)
theorem ci_X4_46 : CI RX4 46 yX4_requireRange cX4_requireRange 3 none 3 := ⟨mw_X4_46, cx_X4_requireRange, cw_X4_requireRange, by decide, by decide, by decide +kernel⟩
set_option maxRecDepth 100000 in
theorem fw_X4_50 : Cond.fieldLink RX4 50 "RackPlanner$Site" "racks" "Ljava/util/ArrayList;" ∈ lw_T := lw_T_mem (List.mem_of_getElem? (i := 116) (by decide +kernel)) (by decide +kernel)
theorem fd_X4_50_6 : FD RX4 50 6 0 := ⟨RX3, TX3, 4, "RackPlanner$Site", rfl, in_X3, by decide, fw_X4_50, (fun s args x _ h => h)⟩
set_option maxRecDepth 100000 in
theorem cw_Jx4a65c_size_8abf5 : Cond.code yJx4a65c_size_8abf5 cJx4a65c_size_8abf5 1 (some .int) ∈ lw_T := lw_T_mem (List.mem_of_getElem? (i := 197) (by decide +kernel)) (by decide +kernel)
set_option maxRecDepth 100000 in
theorem cx_Jx4a65c_size_8abf5 : Cond.initialized yJx4a65c_size_8abf5.cls ∈ lw_T := lw_T_mem (List.mem_of_getElem? (i := 48) (by decide +kernel)) (by decide +kernel)
set_option maxRecDepth 100000 in
theorem ct_Jx4a65c_size_8abf5 : Cond.instanceMethod yJx4a65c_size_8abf5 ∈ lw_T := lw_T_mem (List.mem_of_getElem? (i := 195) (by decide +kernel)) (by decide +kernel)
set_option maxRecDepth 100000 in
theorem cs_Jx4a65c_size_8abf5 : Cond.selects yJx4a65c_size_8abf5.cls yJx4a65c_size_8abf5 yJx4a65c_size_8abf5 ∈ lw_T := lw_T_mem (List.mem_of_getElem? (i := 196) (by decide +kernel)) (by decide +kernel)
set_option maxRecDepth 100000 in
theorem mw_X4_53 : Cond.methodLink RX4 53 yJx4a65c_size_8abf5 ∈ lw_T := lw_T_mem (List.mem_of_getElem? (i := 194) (by decide +kernel)) (by decide +kernel)
theorem ci_X4_53 : CI RX4 53 yJx4a65c_size_8abf5 cJx4a65c_size_8abf5 1 (some .int) 0 := ⟨mw_X4_53, cx_Jx4a65c_size_8abf5, cw_Jx4a65c_size_8abf5, by decide, by decide, by decide +kernel⟩
set_option maxRecDepth 100000 in
theorem tk_X4_57 : Cond.classLink RX4 57 "java/lang/IllegalStateException" ∈ lw_T := lw_T_mem (List.mem_of_getElem? (i := 703) (by decide +kernel)) (by decide +kernel)
set_option maxRecDepth 100000 in
theorem tk_X4_64 : Cond.classLink RX4 64 "RackPlanner$Rack" ∈ lw_T := lw_T_mem (List.mem_of_getElem? (i := 719) (by decide +kernel)) (by decide +kernel)
set_option maxRecDepth 100000 in
theorem iw_X4_64 : Cond.instantiable RX2 4 ∈ lw_T := lw_T_mem (List.mem_of_getElem? (i := 720) (by decide +kernel)) (by decide +kernel)
set_option maxRecDepth 100000 in
theorem ix_X4_64 : Cond.initialized RX2 ∈ lw_T := lw_T_mem (List.mem_of_getElem? (i := 57) (by decide +kernel)) (by decide +kernel)
theorem fn_X4_64 : FN RX4 64 5 4 [.int 0, .int 0, .int 0, .int 0] := ⟨RX2, TX2, tyX2, rfl, in_X2, tyX2_ok, tk_X4_64, iw_X4_64, ix_X4_64, by intro j hj; rcases (show j = 0 ∨ j = 1 ∨ j = 2 ∨ j = 3 by omega) with rfl | rfl | rfl | rfl <;> rfl⟩
set_option maxRecDepth 100000 in
theorem cw_X2_init : Cond.code yX2_init cX2_init 5 none ∈ lw_T := lw_T_mem (List.mem_of_getElem? (i := 723) (by decide +kernel)) (by decide +kernel)
set_option maxRecDepth 100000 in
theorem cx_X2_init : Cond.initialized yX2_init.cls ∈ lw_T := lw_T_mem (List.mem_of_getElem? (i := 57) (by decide +kernel)) (by decide +kernel)
set_option maxRecDepth 100000 in
theorem ct_X2_init : Cond.instanceMethod yX2_init ∈ lw_T := lw_T_mem (List.mem_of_getElem? (i := 722) (by decide +kernel)) (by decide +kernel)
set_option maxRecDepth 100000 in
theorem mw_X4_66 : Cond.methodLink RX4 66 yX2_init ∈ lw_T := lw_T_mem (List.mem_of_getElem? (i := 721) (by decide +kernel)) (by decide +kernel)
theorem ci_X4_66 : CI RX4 66 yX2_init cX2_init 5 none 4 := ⟨mw_X4_66, cx_X2_init, cw_X2_init, by decide, by decide, by decide +kernel⟩
set_option maxRecDepth 100000 in
theorem cw_Jx4a65c_add_9ea2d : Cond.code yJx4a65c_add_9ea2d cJx4a65c_add_9ea2d 2 (some .boolean) ∈ lw_T := lw_T_mem (List.mem_of_getElem? (i := 747) (by decide +kernel)) (by decide +kernel)
set_option maxRecDepth 100000 in
theorem cx_Jx4a65c_add_9ea2d : Cond.initialized yJx4a65c_add_9ea2d.cls ∈ lw_T := lw_T_mem (List.mem_of_getElem? (i := 48) (by decide +kernel)) (by decide +kernel)
set_option maxRecDepth 100000 in
theorem ct_Jx4a65c_add_9ea2d : Cond.instanceMethod yJx4a65c_add_9ea2d ∈ lw_T := lw_T_mem (List.mem_of_getElem? (i := 745) (by decide +kernel)) (by decide +kernel)
set_option maxRecDepth 100000 in
theorem cs_Jx4a65c_add_9ea2d : Cond.selects yJx4a65c_add_9ea2d.cls yJx4a65c_add_9ea2d yJx4a65c_add_9ea2d ∈ lw_T := lw_T_mem (List.mem_of_getElem? (i := 746) (by decide +kernel)) (by decide +kernel)
set_option maxRecDepth 100000 in
theorem mw_X4_69 : Cond.methodLink RX4 69 yJx4a65c_add_9ea2d ∈ lw_T := lw_T_mem (List.mem_of_getElem? (i := 744) (by decide +kernel)) (by decide +kernel)
theorem ci_X4_69 : CI RX4 69 yJx4a65c_add_9ea2d cJx4a65c_add_9ea2d 2 (some .boolean) 1 := ⟨mw_X4_69, cx_Jx4a65c_add_9ea2d, cw_Jx4a65c_add_9ea2d, by decide, by decide, by decide +kernel⟩
set_option maxRecDepth 100000 in
theorem cw_X0_heatInRow : Cond.code yX0_heatInRow cX0_heatInRow 2 (some .int) ∈ lw_T := lw_T_mem (List.mem_of_getElem? (i := 634) (by decide +kernel)) (by decide +kernel)
set_option maxRecDepth 100000 in
theorem cx_X0_heatInRow : Cond.initialized yX0_heatInRow.cls ∈ lw_T := lw_T_mem (List.mem_of_getElem? (i := 50) (by decide +kernel)) (by decide +kernel)
set_option maxRecDepth 100000 in
theorem ct_X0_heatInRow : Cond.instanceMethod yX0_heatInRow ∈ lw_T := lw_T_mem (List.mem_of_getElem? (i := 632) (by decide +kernel)) (by decide +kernel)
set_option maxRecDepth 100000 in
theorem cs_X0_heatInRow : Cond.selects yX0_heatInRow.cls yX0_heatInRow yX0_heatInRow ∈ lw_T := lw_T_mem (List.mem_of_getElem? (i := 633) (by decide +kernel)) (by decide +kernel)
set_option maxRecDepth 100000 in
theorem mw_X4_73 : Cond.methodLink RX4 73 yX0_heatInRow ∈ lw_T := lw_T_mem (List.mem_of_getElem? (i := 759) (by decide +kernel)) (by decide +kernel)
theorem ci_X4_73 : CI RX4 73 yX0_heatInRow cX0_heatInRow 2 (some .int) 1 := ⟨mw_X4_73, cx_X0_heatInRow, cw_X0_heatInRow, by decide, by decide, by decide +kernel⟩
set_option maxRecDepth 100000 in
theorem cw_X0_weightInRow : Cond.code yX0_weightInRow cX0_weightInRow 2 (some .int) ∈ lw_T := lw_T_mem (List.mem_of_getElem? (i := 626) (by decide +kernel)) (by decide +kernel)
set_option maxRecDepth 100000 in
theorem cx_X0_weightInRow : Cond.initialized yX0_weightInRow.cls ∈ lw_T := lw_T_mem (List.mem_of_getElem? (i := 50) (by decide +kernel)) (by decide +kernel)
set_option maxRecDepth 100000 in
theorem ct_X0_weightInRow : Cond.instanceMethod yX0_weightInRow ∈ lw_T := lw_T_mem (List.mem_of_getElem? (i := 624) (by decide +kernel)) (by decide +kernel)
set_option maxRecDepth 100000 in
theorem cs_X0_weightInRow : Cond.selects yX0_weightInRow.cls yX0_weightInRow yX0_weightInRow ∈ lw_T := lw_T_mem (List.mem_of_getElem? (i := 625) (by decide +kernel)) (by decide +kernel)
set_option maxRecDepth 100000 in
theorem mw_X4_77 : Cond.methodLink RX4 77 yX0_weightInRow ∈ lw_T := lw_T_mem (List.mem_of_getElem? (i := 760) (by decide +kernel)) (by decide +kernel)
theorem ci_X4_77 : CI RX4 77 yX0_weightInRow cX0_weightInRow 2 (some .int) 1 := ⟨mw_X4_77, cx_X0_weightInRow, cw_X0_weightInRow, by decide, by decide, by decide +kernel⟩
set_option maxRecDepth 100000 in
theorem fw_X4_82 : Cond.fieldLink RX4 82 "RackPlanner$Site" "rowHeat" "[I" ∈ lw_T := lw_T_mem (List.mem_of_getElem? (i := 119) (by decide +kernel)) (by decide +kernel)
theorem fd_X4_82_6 : FD RX4 82 6 1 := ⟨RX3, TX3, 4, "RackPlanner$Site", rfl, in_X3, by decide, fw_X4_82, (fun s args x _ h => h)⟩
set_option maxRecDepth 100000 in
theorem fw_X4_86 : Cond.fieldLink RX4 86 "RackPlanner$Site" "rowWeight" "[I" ∈ lw_T := lw_T_mem (List.mem_of_getElem? (i := 122) (by decide +kernel)) (by decide +kernel)
theorem fd_X4_86_6 : FD RX4 86 6 2 := ⟨RX3, TX3, 4, "RackPlanner$Site", rfl, in_X3, by decide, fw_X4_86, (fun s args x _ h => h)⟩
set_option maxRecDepth 100000 in
theorem cw_X4_requireFeed : Cond.code yX4_requireFeed cX4_requireFeed 1 none ∈ lw_T := lw_T_mem (List.mem_of_getElem? (i := 771) (by decide +kernel)) (by decide +kernel)
set_option maxRecDepth 100000 in
theorem cx_X4_requireFeed : Cond.initialized yX4_requireFeed.cls ∈ lw_T := lw_T_mem (List.mem_of_getElem? (i := 44) (by decide +kernel)) (by decide +kernel)
set_option maxRecDepth 100000 in
theorem ct_X4_requireFeed : Cond.static yX4_requireFeed ∈ lw_T := lw_T_mem (List.mem_of_getElem? (i := 770) (by decide +kernel)) (by decide +kernel)
set_option maxRecDepth 100000 in
theorem mw_X4_89 : Cond.methodLink RX4 89 yX4_requireFeed ∈ lw_T := lw_T_mem (List.mem_of_getElem? (i := 769) (by decide +kernel)) (by decide +kernel)
theorem ci_X4_89 : CI RX4 89 yX4_requireFeed cX4_requireFeed 1 none 1 := ⟨mw_X4_89, cx_X4_requireFeed, cw_X4_requireFeed, by decide, by decide, by decide +kernel⟩
set_option maxRecDepth 100000 in
theorem cw_X0_worstOnFeed : Cond.code yX0_worstOnFeed cX0_worstOnFeed 4 (some .int) ∈ lw_T := lw_T_mem (List.mem_of_getElem? (i := 653) (by decide +kernel)) (by decide +kernel)
set_option maxRecDepth 100000 in
theorem cx_X0_worstOnFeed : Cond.initialized yX0_worstOnFeed.cls ∈ lw_T := lw_T_mem (List.mem_of_getElem? (i := 50) (by decide +kernel)) (by decide +kernel)
set_option maxRecDepth 100000 in
theorem ct_X0_worstOnFeed : Cond.instanceMethod yX0_worstOnFeed ∈ lw_T := lw_T_mem (List.mem_of_getElem? (i := 651) (by decide +kernel)) (by decide +kernel)
set_option maxRecDepth 100000 in
theorem cs_X0_worstOnFeed : Cond.selects yX0_worstOnFeed.cls yX0_worstOnFeed yX0_worstOnFeed ∈ lw_T := lw_T_mem (List.mem_of_getElem? (i := 652) (by decide +kernel)) (by decide +kernel)
set_option maxRecDepth 100000 in
theorem mw_X4_93 : Cond.methodLink RX4 93 yX0_worstOnFeed ∈ lw_T := lw_T_mem (List.mem_of_getElem? (i := 772) (by decide +kernel)) (by decide +kernel)
theorem ci_X4_93 : CI RX4 93 yX0_worstOnFeed cX0_worstOnFeed 4 (some .int) 1 := ⟨mw_X4_93, cx_X0_worstOnFeed, cw_X0_worstOnFeed, by decide, by decide, by decide +kernel⟩
set_option maxRecDepth 100000 in
theorem fw_X4_98 : Cond.fieldLink RX4 98 "RackPlanner$Site" "feedPower" "[I" ∈ lw_T := lw_T_mem (List.mem_of_getElem? (i := 125) (by decide +kernel)) (by decide +kernel)
theorem fd_X4_98_6 : FD RX4 98 6 3 := ⟨RX3, TX3, 4, "RackPlanner$Site", rfl, in_X3, by decide, fw_X4_98, (fun s args x _ h => h)⟩
set_option maxRecDepth 100000 in
theorem cw_Jx4a65c_get_915e3 : Cond.code yJx4a65c_get_915e3 cJx4a65c_get_915e3 2 (some (.object "java/lang/Object")) ∈ lw_T := lw_T_mem (List.mem_of_getElem? (i := 213) (by decide +kernel)) (by decide +kernel)
set_option maxRecDepth 100000 in
theorem cx_Jx4a65c_get_915e3 : Cond.initialized yJx4a65c_get_915e3.cls ∈ lw_T := lw_T_mem (List.mem_of_getElem? (i := 48) (by decide +kernel)) (by decide +kernel)
set_option maxRecDepth 100000 in
theorem ct_Jx4a65c_get_915e3 : Cond.instanceMethod yJx4a65c_get_915e3 ∈ lw_T := lw_T_mem (List.mem_of_getElem? (i := 211) (by decide +kernel)) (by decide +kernel)
set_option maxRecDepth 100000 in
theorem cs_Jx4a65c_get_915e3 : Cond.selects yJx4a65c_get_915e3.cls yJx4a65c_get_915e3 yJx4a65c_get_915e3 ∈ lw_T := lw_T_mem (List.mem_of_getElem? (i := 212) (by decide +kernel)) (by decide +kernel)
set_option maxRecDepth 100000 in
theorem mw_X4_101 : Cond.methodLink RX4 101 yJx4a65c_get_915e3 ∈ lw_T := lw_T_mem (List.mem_of_getElem? (i := 210) (by decide +kernel)) (by decide +kernel)
theorem ci_X4_101 : CI RX4 101 yJx4a65c_get_915e3 cJx4a65c_get_915e3 2 (some (.object "java/lang/Object")) 1 := ⟨mw_X4_101, cx_Jx4a65c_get_915e3, cw_Jx4a65c_get_915e3, by decide, by decide, by decide +kernel⟩
set_option maxRecDepth 100000 in
theorem tk_X4_105 : Cond.classLink RX4 105 "RackPlanner$Machine" ∈ lw_T := lw_T_mem (List.mem_of_getElem? (i := 224) (by decide +kernel)) (by decide +kernel)
set_option maxRecDepth 100000 in
theorem iw_X4_105 : Cond.instantiable RX1 7 ∈ lw_T := lw_T_mem (List.mem_of_getElem? (i := 807) (by decide +kernel)) (by decide +kernel)
set_option maxRecDepth 100000 in
theorem ix_X4_105 : Cond.initialized RX1 ∈ lw_T := lw_T_mem (List.mem_of_getElem? (i := 63) (by decide +kernel)) (by decide +kernel)
theorem fn_X4_105 : FN RX4 105 4 7 [.int 0, .int 0, .int 0, .int 0, .int 0, .int 0, .int 0] := ⟨RX1, TX1, tyX1, rfl, in_X1, tyX1_ok, tk_X4_105, iw_X4_105, ix_X4_105, by intro j hj; rcases (show j = 0 ∨ j = 1 ∨ j = 2 ∨ j = 3 ∨ j = 4 ∨ j = 5 ∨ j = 6 by omega) with rfl | rfl | rfl | rfl | rfl | rfl | rfl <;> rfl⟩
set_option maxRecDepth 100000 in
theorem cw_X4_hasNoFeed : Cond.code yX4_hasNoFeed cX4_hasNoFeed 3 (some .boolean) ∈ lw_T := lw_T_mem (List.mem_of_getElem? (i := 784) (by decide +kernel)) (by decide +kernel)
set_option maxRecDepth 100000 in
theorem cx_X4_hasNoFeed : Cond.initialized yX4_hasNoFeed.cls ∈ lw_T := lw_T_mem (List.mem_of_getElem? (i := 44) (by decide +kernel)) (by decide +kernel)
set_option maxRecDepth 100000 in
theorem ct_X4_hasNoFeed : Cond.instanceMethod yX4_hasNoFeed ∈ lw_T := lw_T_mem (List.mem_of_getElem? (i := 783) (by decide +kernel)) (by decide +kernel)
set_option maxRecDepth 100000 in
theorem cs_X4_hasNoFeed : Cond.selects yX4_hasNoFeed.cls yX4_hasNoFeed yX4_hasNoFeed ∈ lw_T := lw_T_mem (List.mem_of_getElem? (i := 15) (by decide +kernel)) (by decide +kernel)
set_option maxRecDepth 100000 in
theorem mw_X4_107 : Cond.methodLink RX4 107 yX4_hasNoFeed ∈ lw_T := lw_T_mem (List.mem_of_getElem? (i := 781) (by decide +kernel)) (by decide +kernel)
theorem ci_X4_107 : CI RX4 107 yX4_hasNoFeed cX4_hasNoFeed 3 (some .boolean) 1 := ⟨mw_X4_107, cx_X4_hasNoFeed, cw_X4_hasNoFeed, by decide, by decide, by decide +kernel⟩
set_option maxRecDepth 100000 in
theorem cw_X4_newMachine : Cond.code yX4_newMachine cX4_newMachine 5 (some (.object "RackPlanner$Machine")) ∈ lw_T := lw_T_mem (List.mem_of_getElem? (i := 806) (by decide +kernel)) (by decide +kernel)
set_option maxRecDepth 100000 in
theorem cx_X4_newMachine : Cond.initialized yX4_newMachine.cls ∈ lw_T := lw_T_mem (List.mem_of_getElem? (i := 44) (by decide +kernel)) (by decide +kernel)
set_option maxRecDepth 100000 in
theorem ct_X4_newMachine : Cond.instanceMethod yX4_newMachine ∈ lw_T := lw_T_mem (List.mem_of_getElem? (i := 805) (by decide +kernel)) (by decide +kernel)
set_option maxRecDepth 100000 in
theorem cs_X4_newMachine : Cond.selects yX4_newMachine.cls yX4_newMachine yX4_newMachine ∈ lw_T := lw_T_mem (List.mem_of_getElem? (i := 16) (by decide +kernel)) (by decide +kernel)
set_option maxRecDepth 100000 in
theorem mw_X4_111 : Cond.methodLink RX4 111 yX4_newMachine ∈ lw_T := lw_T_mem (List.mem_of_getElem? (i := 803) (by decide +kernel)) (by decide +kernel)
theorem ci_X4_111 : CI RX4 111 yX4_newMachine cX4_newMachine 5 (some (.object "RackPlanner$Machine")) 4 := ⟨mw_X4_111, cx_X4_newMachine, cw_X4_newMachine, by decide, by decide, by decide +kernel⟩
set_option maxRecDepth 100000 in
theorem cw_X0_firstFit : Cond.code yX0_firstFit cX0_firstFit 4 (some .int) ∈ lw_T := lw_T_mem (List.mem_of_getElem? (i := 611) (by decide +kernel)) (by decide +kernel)
set_option maxRecDepth 100000 in
theorem cx_X0_firstFit : Cond.initialized yX0_firstFit.cls ∈ lw_T := lw_T_mem (List.mem_of_getElem? (i := 50) (by decide +kernel)) (by decide +kernel)
set_option maxRecDepth 100000 in
theorem ct_X0_firstFit : Cond.instanceMethod yX0_firstFit ∈ lw_T := lw_T_mem (List.mem_of_getElem? (i := 609) (by decide +kernel)) (by decide +kernel)
set_option maxRecDepth 100000 in
theorem cs_X0_firstFit : Cond.selects yX0_firstFit.cls yX0_firstFit yX0_firstFit ∈ lw_T := lw_T_mem (List.mem_of_getElem? (i := 610) (by decide +kernel)) (by decide +kernel)
set_option maxRecDepth 100000 in
theorem mw_X4_117 : Cond.methodLink RX4 117 yX0_firstFit ∈ lw_T := lw_T_mem (List.mem_of_getElem? (i := 608) (by decide +kernel)) (by decide +kernel)
theorem ci_X4_117 : CI RX4 117 yX0_firstFit cX0_firstFit 4 (some .int) 1 := ⟨mw_X4_117, cx_X0_firstFit, cw_X0_firstFit, by decide, by decide, by decide +kernel⟩
set_option maxRecDepth 100000 in
theorem fw_X4_123 : Cond.fieldLink RX4 123 "RackPlanner$Machine" "cell" "I" ∈ lw_T := lw_T_mem (List.mem_of_getElem? (i := 828) (by decide +kernel)) (by decide +kernel)
theorem fd_X4_123_4 : FD RX4 123 4 5 := ⟨RX1, TX1, 7, "RackPlanner$Machine", rfl, in_X1, by decide, fw_X4_123, (fun s args x _ h => h)⟩
theorem fp_X4_123_4 : FP RX4 123 4 5 .int false := ⟨RX1, TX1, 7, "RackPlanner$Machine", tyX1, ⟨rfl, in_X1, by decide, fw_X4_123, (fun s args x _ h => h)⟩, tyX1_ok, nmX1, by decide +kernel, rfl, fun h => by cases h⟩
set_option maxRecDepth 100000 in
theorem cw_X0_put : Cond.code yX0_put cX0_put 3 none ∈ lw_T := lw_T_mem (List.mem_of_getElem? (i := 664) (by decide +kernel)) (by decide +kernel)
set_option maxRecDepth 100000 in
theorem cx_X0_put : Cond.initialized yX0_put.cls ∈ lw_T := lw_T_mem (List.mem_of_getElem? (i := 50) (by decide +kernel)) (by decide +kernel)
set_option maxRecDepth 100000 in
theorem ct_X0_put : Cond.instanceMethod yX0_put ∈ lw_T := lw_T_mem (List.mem_of_getElem? (i := 662) (by decide +kernel)) (by decide +kernel)
set_option maxRecDepth 100000 in
theorem cs_X0_put : Cond.selects yX0_put.cls yX0_put yX0_put ∈ lw_T := lw_T_mem (List.mem_of_getElem? (i := 663) (by decide +kernel)) (by decide +kernel)
set_option maxRecDepth 100000 in
theorem mw_X4_126 : Cond.methodLink RX4 126 yX0_put ∈ lw_T := lw_T_mem (List.mem_of_getElem? (i := 661) (by decide +kernel)) (by decide +kernel)
theorem ci_X4_126 : CI RX4 126 yX0_put cX0_put 3 none 2 := ⟨mw_X4_126, cx_X0_put, cw_X0_put, by decide, by decide, by decide +kernel⟩
set_option maxRecDepth 100000 in
theorem fw_X4_130 : Cond.fieldLink RX4 130 "RackPlanner$Machine" "number" "I" ∈ lw_T := lw_T_mem (List.mem_of_getElem? (i := 814) (by decide +kernel)) (by decide +kernel)
theorem fd_X4_130_4 : FD RX4 130 4 0 := ⟨RX1, TX1, 7, "RackPlanner$Machine", rfl, in_X1, by decide, fw_X4_130, (fun s args x _ h => h)⟩
set_option maxRecDepth 100000 in
theorem cw_X4_indexOfPlaced : Cond.code yX4_indexOfPlaced cX4_indexOfPlaced 3 (some .int) ∈ lw_T := lw_T_mem (List.mem_of_getElem? (i := 859) (by decide +kernel)) (by decide +kernel)
set_option maxRecDepth 100000 in
theorem cx_X4_indexOfPlaced : Cond.initialized yX4_indexOfPlaced.cls ∈ lw_T := lw_T_mem (List.mem_of_getElem? (i := 44) (by decide +kernel)) (by decide +kernel)
set_option maxRecDepth 100000 in
theorem ct_X4_indexOfPlaced : Cond.instanceMethod yX4_indexOfPlaced ∈ lw_T := lw_T_mem (List.mem_of_getElem? (i := 858) (by decide +kernel)) (by decide +kernel)
set_option maxRecDepth 100000 in
theorem cs_X4_indexOfPlaced : Cond.selects yX4_indexOfPlaced.cls yX4_indexOfPlaced yX4_indexOfPlaced ∈ lw_T := lw_T_mem (List.mem_of_getElem? (i := 17) (by decide +kernel)) (by decide +kernel)
set_option maxRecDepth 100000 in
theorem mw_X4_133 : Cond.methodLink RX4 133 yX4_indexOfPlaced ∈ lw_T := lw_T_mem (List.mem_of_getElem? (i := 856) (by decide +kernel)) (by decide +kernel)
theorem ci_X4_133 : CI RX4 133 yX4_indexOfPlaced cX4_indexOfPlaced 3 (some .int) 1 := ⟨mw_X4_133, cx_X4_indexOfPlaced, cw_X4_indexOfPlaced, by decide, by decide, by decide +kernel⟩
set_option maxRecDepth 100000 in
theorem cw_X0_clear : Cond.code yX0_clear cX0_clear 2 none ∈ lw_T := lw_T_mem (List.mem_of_getElem? (i := 866) (by decide +kernel)) (by decide +kernel)
set_option maxRecDepth 100000 in
theorem cx_X0_clear : Cond.initialized yX0_clear.cls ∈ lw_T := lw_T_mem (List.mem_of_getElem? (i := 50) (by decide +kernel)) (by decide +kernel)
set_option maxRecDepth 100000 in
theorem ct_X0_clear : Cond.instanceMethod yX0_clear ∈ lw_T := lw_T_mem (List.mem_of_getElem? (i := 864) (by decide +kernel)) (by decide +kernel)
set_option maxRecDepth 100000 in
theorem cs_X0_clear : Cond.selects yX0_clear.cls yX0_clear yX0_clear ∈ lw_T := lw_T_mem (List.mem_of_getElem? (i := 865) (by decide +kernel)) (by decide +kernel)
set_option maxRecDepth 100000 in
theorem mw_X4_136 : Cond.methodLink RX4 136 yX0_clear ∈ lw_T := lw_T_mem (List.mem_of_getElem? (i := 863) (by decide +kernel)) (by decide +kernel)
theorem ci_X4_136 : CI RX4 136 yX0_clear cX0_clear 2 none 1 := ⟨mw_X4_136, cx_X0_clear, cw_X0_clear, by decide, by decide, by decide +kernel⟩
set_option maxRecDepth 100000 in
theorem cw_Jx4a65c_remove_915e3 : Cond.code yJx4a65c_remove_915e3 cJx4a65c_remove_915e3 4 (some (.object "java/lang/Object")) ∈ lw_T := lw_T_mem (List.mem_of_getElem? (i := 870) (by decide +kernel)) (by decide +kernel)
set_option maxRecDepth 100000 in
theorem cx_Jx4a65c_remove_915e3 : Cond.initialized yJx4a65c_remove_915e3.cls ∈ lw_T := lw_T_mem (List.mem_of_getElem? (i := 48) (by decide +kernel)) (by decide +kernel)
set_option maxRecDepth 100000 in
theorem ct_Jx4a65c_remove_915e3 : Cond.instanceMethod yJx4a65c_remove_915e3 ∈ lw_T := lw_T_mem (List.mem_of_getElem? (i := 868) (by decide +kernel)) (by decide +kernel)
set_option maxRecDepth 100000 in
theorem cs_Jx4a65c_remove_915e3 : Cond.selects yJx4a65c_remove_915e3.cls yJx4a65c_remove_915e3 yJx4a65c_remove_915e3 ∈ lw_T := lw_T_mem (List.mem_of_getElem? (i := 869) (by decide +kernel)) (by decide +kernel)
set_option maxRecDepth 100000 in
theorem mw_X4_140 : Cond.methodLink RX4 140 yJx4a65c_remove_915e3 ∈ lw_T := lw_T_mem (List.mem_of_getElem? (i := 867) (by decide +kernel)) (by decide +kernel)
theorem ci_X4_140 : CI RX4 140 yJx4a65c_remove_915e3 cJx4a65c_remove_915e3 4 (some (.object "java/lang/Object")) 1 := ⟨mw_X4_140, cx_Jx4a65c_remove_915e3, cw_Jx4a65c_remove_915e3, by decide, by decide, by decide +kernel⟩
set_option maxRecDepth 100000 in
theorem cw_X4_rackOfCell : Cond.code yX4_rackOfCell cX4_rackOfCell 1 (some .int) ∈ lw_T := lw_T_mem (List.mem_of_getElem? (i := 671) (by decide +kernel)) (by decide +kernel)
set_option maxRecDepth 100000 in
theorem cx_X4_rackOfCell : Cond.initialized yX4_rackOfCell.cls ∈ lw_T := lw_T_mem (List.mem_of_getElem? (i := 44) (by decide +kernel)) (by decide +kernel)
set_option maxRecDepth 100000 in
theorem ct_X4_rackOfCell : Cond.static yX4_rackOfCell ∈ lw_T := lw_T_mem (List.mem_of_getElem? (i := 670) (by decide +kernel)) (by decide +kernel)
set_option maxRecDepth 100000 in
theorem mw_X4_143 : Cond.methodLink RX4 143 yX4_rackOfCell ∈ lw_T := lw_T_mem (List.mem_of_getElem? (i := 875) (by decide +kernel)) (by decide +kernel)
theorem ci_X4_143 : CI RX4 143 yX4_rackOfCell cX4_rackOfCell 1 (some .int) 1 := ⟨mw_X4_143, cx_X4_rackOfCell, cw_X4_rackOfCell, by decide, by decide, by decide +kernel⟩
set_option maxRecDepth 100000 in
theorem cw_X4_requireMachine : Cond.code yX4_requireMachine cX4_requireMachine 2 (some (.object "RackPlanner$Machine")) ∈ lw_T := lw_T_mem (List.mem_of_getElem? (i := 886) (by decide +kernel)) (by decide +kernel)
set_option maxRecDepth 100000 in
theorem cx_X4_requireMachine : Cond.initialized yX4_requireMachine.cls ∈ lw_T := lw_T_mem (List.mem_of_getElem? (i := 44) (by decide +kernel)) (by decide +kernel)
set_option maxRecDepth 100000 in
theorem ct_X4_requireMachine : Cond.instanceMethod yX4_requireMachine ∈ lw_T := lw_T_mem (List.mem_of_getElem? (i := 885) (by decide +kernel)) (by decide +kernel)
set_option maxRecDepth 100000 in
theorem cs_X4_requireMachine : Cond.selects yX4_requireMachine.cls yX4_requireMachine yX4_requireMachine ∈ lw_T := lw_T_mem (List.mem_of_getElem? (i := 19) (by decide +kernel)) (by decide +kernel)
set_option maxRecDepth 100000 in
theorem mw_X4_146 : Cond.methodLink RX4 146 yX4_requireMachine ∈ lw_T := lw_T_mem (List.mem_of_getElem? (i := 883) (by decide +kernel)) (by decide +kernel)
theorem ci_X4_146 : CI RX4 146 yX4_requireMachine cX4_requireMachine 2 (some (.object "RackPlanner$Machine")) 1 := ⟨mw_X4_146, cx_X4_requireMachine, cw_X4_requireMachine, by decide, by decide, by decide +kernel⟩
set_option maxRecDepth 100000 in
theorem cw_X0_bearsCords : Cond.code yX0_bearsCords cX0_bearsCords 4 (some .boolean) ∈ lw_T := lw_T_mem (List.mem_of_getElem? (i := 890) (by decide +kernel)) (by decide +kernel)
set_option maxRecDepth 100000 in
theorem cx_X0_bearsCords : Cond.initialized yX0_bearsCords.cls ∈ lw_T := lw_T_mem (List.mem_of_getElem? (i := 50) (by decide +kernel)) (by decide +kernel)
set_option maxRecDepth 100000 in
theorem ct_X0_bearsCords : Cond.instanceMethod yX0_bearsCords ∈ lw_T := lw_T_mem (List.mem_of_getElem? (i := 888) (by decide +kernel)) (by decide +kernel)
set_option maxRecDepth 100000 in
theorem cs_X0_bearsCords : Cond.selects yX0_bearsCords.cls yX0_bearsCords yX0_bearsCords ∈ lw_T := lw_T_mem (List.mem_of_getElem? (i := 889) (by decide +kernel)) (by decide +kernel)
set_option maxRecDepth 100000 in
theorem mw_X4_150 : Cond.methodLink RX4 150 yX0_bearsCords ∈ lw_T := lw_T_mem (List.mem_of_getElem? (i := 887) (by decide +kernel)) (by decide +kernel)
theorem ci_X4_150 : CI RX4 150 yX0_bearsCords cX0_bearsCords 4 (some .boolean) 2 := ⟨mw_X4_150, cx_X0_bearsCords, cw_X0_bearsCords, by decide, by decide, by decide +kernel⟩
set_option maxRecDepth 100000 in
theorem fw_X4_156 : Cond.fieldLink RX4 156 "RackPlanner$Machine" "cords" "I" ∈ lw_T := lw_T_mem (List.mem_of_getElem? (i := 825) (by decide +kernel)) (by decide +kernel)
theorem fd_X4_156_4 : FD RX4 156 4 4 := ⟨RX1, TX1, 7, "RackPlanner$Machine", rfl, in_X1, by decide, fw_X4_156, (fun s args x _ h => h)⟩
theorem fp_X4_156_4 : FP RX4 156 4 4 .int false := ⟨RX1, TX1, 7, "RackPlanner$Machine", tyX1, ⟨rfl, in_X1, by decide, fw_X4_156, (fun s args x _ h => h)⟩, tyX1_ok, nmX1, by decide +kernel, rfl, fun h => by cases h⟩
set_option maxRecDepth 100000 in
theorem cw_X0_changeCords : Cond.code yX0_changeCords cX0_changeCords 5 none ∈ lw_T := lw_T_mem (List.mem_of_getElem? (i := 896) (by decide +kernel)) (by decide +kernel)
set_option maxRecDepth 100000 in
theorem cx_X0_changeCords : Cond.initialized yX0_changeCords.cls ∈ lw_T := lw_T_mem (List.mem_of_getElem? (i := 50) (by decide +kernel)) (by decide +kernel)
set_option maxRecDepth 100000 in
theorem ct_X0_changeCords : Cond.instanceMethod yX0_changeCords ∈ lw_T := lw_T_mem (List.mem_of_getElem? (i := 894) (by decide +kernel)) (by decide +kernel)
set_option maxRecDepth 100000 in
theorem cs_X0_changeCords : Cond.selects yX0_changeCords.cls yX0_changeCords yX0_changeCords ∈ lw_T := lw_T_mem (List.mem_of_getElem? (i := 895) (by decide +kernel)) (by decide +kernel)
set_option maxRecDepth 100000 in
theorem mw_X4_159 : Cond.methodLink RX4 159 yX0_changeCords ∈ lw_T := lw_T_mem (List.mem_of_getElem? (i := 893) (by decide +kernel)) (by decide +kernel)
theorem ci_X4_159 : CI RX4 159 yX0_changeCords cX0_changeCords 5 none 2 := ⟨mw_X4_159, cx_X0_changeCords, cw_X0_changeCords, by decide, by decide, by decide +kernel⟩
set_option maxRecDepth 100000 in
theorem cw_X4_listForPacking : Cond.code yX4_listForPacking cX4_listForPacking 4 none ∈ lw_T := lw_T_mem (List.mem_of_getElem? (i := 205) (by decide +kernel)) (by decide +kernel)
set_option maxRecDepth 100000 in
theorem cx_X4_listForPacking : Cond.initialized yX4_listForPacking.cls ∈ lw_T := lw_T_mem (List.mem_of_getElem? (i := 44) (by decide +kernel)) (by decide +kernel)
set_option maxRecDepth 100000 in
theorem ct_X4_listForPacking : Cond.instanceMethod yX4_listForPacking ∈ lw_T := lw_T_mem (List.mem_of_getElem? (i := 204) (by decide +kernel)) (by decide +kernel)
set_option maxRecDepth 100000 in
theorem cs_X4_listForPacking : Cond.selects yX4_listForPacking.cls yX4_listForPacking yX4_listForPacking ∈ lw_T := lw_T_mem (List.mem_of_getElem? (i := 0) (by decide +kernel)) (by decide +kernel)
set_option maxRecDepth 100000 in
theorem mw_X4_162 : Cond.methodLink RX4 162 yX4_listForPacking ∈ lw_T := lw_T_mem (List.mem_of_getElem? (i := 202) (by decide +kernel)) (by decide +kernel)
theorem ci_X4_162 : CI RX4 162 yX4_listForPacking cX4_listForPacking 4 none 0 := ⟨mw_X4_162, cx_X4_listForPacking, cw_X4_listForPacking, by decide, by decide, by decide +kernel⟩
set_option maxRecDepth 100000 in
theorem cw_X0_clearAll : Cond.code yX0_clearAll cX0_clearAll 2 none ∈ lw_T := lw_T_mem (List.mem_of_getElem? (i := 607) (by decide +kernel)) (by decide +kernel)
set_option maxRecDepth 100000 in
theorem cx_X0_clearAll : Cond.initialized yX0_clearAll.cls ∈ lw_T := lw_T_mem (List.mem_of_getElem? (i := 50) (by decide +kernel)) (by decide +kernel)
set_option maxRecDepth 100000 in
theorem ct_X0_clearAll : Cond.instanceMethod yX0_clearAll ∈ lw_T := lw_T_mem (List.mem_of_getElem? (i := 605) (by decide +kernel)) (by decide +kernel)
set_option maxRecDepth 100000 in
theorem cs_X0_clearAll : Cond.selects yX0_clearAll.cls yX0_clearAll yX0_clearAll ∈ lw_T := lw_T_mem (List.mem_of_getElem? (i := 606) (by decide +kernel)) (by decide +kernel)
set_option maxRecDepth 100000 in
theorem mw_X4_165 : Cond.methodLink RX4 165 yX0_clearAll ∈ lw_T := lw_T_mem (List.mem_of_getElem? (i := 604) (by decide +kernel)) (by decide +kernel)
theorem ci_X4_165 : CI RX4 165 yX0_clearAll cX0_clearAll 2 none 0 := ⟨mw_X4_165, cx_X0_clearAll, cw_X0_clearAll, by decide, by decide, by decide +kernel⟩
set_option maxRecDepth 100000 in
theorem fw_X4_168 : Cond.fieldLink RX4 168 "RackPlanner$Machine" "packedCell" "I" ∈ lw_T := lw_T_mem (List.mem_of_getElem? (i := 830) (by decide +kernel)) (by decide +kernel)
theorem fd_X4_168_4 : FD RX4 168 4 6 := ⟨RX1, TX1, 7, "RackPlanner$Machine", rfl, in_X1, by decide, fw_X4_168, (fun s args x _ h => h)⟩
theorem fp_X4_168_4 : FP RX4 168 4 6 .int false := ⟨RX1, TX1, 7, "RackPlanner$Machine", tyX1, ⟨rfl, in_X1, by decide, fw_X4_168, (fun s args x _ h => h)⟩, tyX1_ok, nmX1, by decide +kernel, rfl, fun h => by cases h⟩
set_option maxRecDepth 100000 in
theorem cw_X4_swapLayouts : Cond.code yX4_swapLayouts cX4_swapLayouts 2 none ∈ lw_T := lw_T_mem (List.mem_of_getElem? (i := 679) (by decide +kernel)) (by decide +kernel)
set_option maxRecDepth 100000 in
theorem cx_X4_swapLayouts : Cond.initialized yX4_swapLayouts.cls ∈ lw_T := lw_T_mem (List.mem_of_getElem? (i := 44) (by decide +kernel)) (by decide +kernel)
set_option maxRecDepth 100000 in
theorem ct_X4_swapLayouts : Cond.instanceMethod yX4_swapLayouts ∈ lw_T := lw_T_mem (List.mem_of_getElem? (i := 678) (by decide +kernel)) (by decide +kernel)
set_option maxRecDepth 100000 in
theorem cs_X4_swapLayouts : Cond.selects yX4_swapLayouts.cls yX4_swapLayouts yX4_swapLayouts ∈ lw_T := lw_T_mem (List.mem_of_getElem? (i := 12) (by decide +kernel)) (by decide +kernel)
set_option maxRecDepth 100000 in
theorem mw_X4_171 : Cond.methodLink RX4 171 yX4_swapLayouts ∈ lw_T := lw_T_mem (List.mem_of_getElem? (i := 676) (by decide +kernel)) (by decide +kernel)
theorem ci_X4_171 : CI RX4 171 yX4_swapLayouts cX4_swapLayouts 2 none 0 := ⟨mw_X4_171, cx_X4_swapLayouts, cw_X4_swapLayouts, by decide, by decide, by decide +kernel⟩
set_option maxRecDepth 100000 in
theorem cw_X4_moveToPacked : Cond.code yX4_moveToPacked cX4_moveToPacked 4 (some .int) ∈ lw_T := lw_T_mem (List.mem_of_getElem? (i := 683) (by decide +kernel)) (by decide +kernel)
set_option maxRecDepth 100000 in
theorem cx_X4_moveToPacked : Cond.initialized yX4_moveToPacked.cls ∈ lw_T := lw_T_mem (List.mem_of_getElem? (i := 44) (by decide +kernel)) (by decide +kernel)
set_option maxRecDepth 100000 in
theorem ct_X4_moveToPacked : Cond.instanceMethod yX4_moveToPacked ∈ lw_T := lw_T_mem (List.mem_of_getElem? (i := 682) (by decide +kernel)) (by decide +kernel)
set_option maxRecDepth 100000 in
theorem cs_X4_moveToPacked : Cond.selects yX4_moveToPacked.cls yX4_moveToPacked yX4_moveToPacked ∈ lw_T := lw_T_mem (List.mem_of_getElem? (i := 13) (by decide +kernel)) (by decide +kernel)
set_option maxRecDepth 100000 in
theorem mw_X4_174 : Cond.methodLink RX4 174 yX4_moveToPacked ∈ lw_T := lw_T_mem (List.mem_of_getElem? (i := 680) (by decide +kernel)) (by decide +kernel)
theorem ci_X4_174 : CI RX4 174 yX4_moveToPacked cX4_moveToPacked 4 (some .int) 0 := ⟨mw_X4_174, cx_X4_moveToPacked, cw_X4_moveToPacked, by decide, by decide, by decide +kernel⟩
set_option maxRecDepth 100000 in
theorem cw_X4_requireRack : Cond.code yX4_requireRack cX4_requireRack 2 (some (.object "RackPlanner$Rack")) ∈ lw_T := lw_T_mem (List.mem_of_getElem? (i := 928) (by decide +kernel)) (by decide +kernel)
set_option maxRecDepth 100000 in
theorem cx_X4_requireRack : Cond.initialized yX4_requireRack.cls ∈ lw_T := lw_T_mem (List.mem_of_getElem? (i := 44) (by decide +kernel)) (by decide +kernel)
set_option maxRecDepth 100000 in
theorem ct_X4_requireRack : Cond.instanceMethod yX4_requireRack ∈ lw_T := lw_T_mem (List.mem_of_getElem? (i := 927) (by decide +kernel)) (by decide +kernel)
set_option maxRecDepth 100000 in
theorem cs_X4_requireRack : Cond.selects yX4_requireRack.cls yX4_requireRack yX4_requireRack ∈ lw_T := lw_T_mem (List.mem_of_getElem? (i := 20) (by decide +kernel)) (by decide +kernel)
set_option maxRecDepth 100000 in
theorem mw_X4_177 : Cond.methodLink RX4 177 yX4_requireRack ∈ lw_T := lw_T_mem (List.mem_of_getElem? (i := 925) (by decide +kernel)) (by decide +kernel)
theorem ci_X4_177 : CI RX4 177 yX4_requireRack cX4_requireRack 2 (some (.object "RackPlanner$Rack")) 1 := ⟨mw_X4_177, cx_X4_requireRack, cw_X4_requireRack, by decide, by decide, by decide +kernel⟩
set_option maxRecDepth 100000 in
theorem fw_X4_181 : Cond.fieldLink RX4 181 "RackPlanner$Rack" "slots" "I" ∈ lw_T := lw_T_mem (List.mem_of_getElem? (i := 729) (by decide +kernel)) (by decide +kernel)
theorem fd_X4_181_5 : FD RX4 181 5 1 := ⟨RX2, TX2, 4, "RackPlanner$Rack", rfl, in_X2, by decide, fw_X4_181, (fun s args x _ h => h)⟩
set_option maxRecDepth 100000 in
theorem tk_X4_184 : Cond.classLink RX4 184 "java/lang/IndexOutOfBoundsException" ∈ lw_T := lw_T_mem (List.mem_of_getElem? (i := 860) (by decide +kernel)) (by decide +kernel)
set_option maxRecDepth 100000 in
theorem fw_X4_189 : Cond.fieldLink RX4 189 "RackPlanner$Layout" "inCell" "[I" ∈ lw_T := lw_T_mem (List.mem_of_getElem? (i := 150) (by decide +kernel)) (by decide +kernel)
theorem fd_X4_189_3 : FD RX4 189 3 1 := ⟨RX0, TX0, 5, "RackPlanner$Layout", rfl, in_X0, by decide, fw_X4_189, (fun s args x _ h => h)⟩
set_option maxRecDepth 100000 in
theorem cw_X4_cellAt : Cond.code yX4_cellAt cX4_cellAt 2 (some .int) ∈ lw_T := lw_T_mem (List.mem_of_getElem? (i := 660) (by decide +kernel)) (by decide +kernel)
set_option maxRecDepth 100000 in
theorem cx_X4_cellAt : Cond.initialized yX4_cellAt.cls ∈ lw_T := lw_T_mem (List.mem_of_getElem? (i := 44) (by decide +kernel)) (by decide +kernel)
set_option maxRecDepth 100000 in
theorem ct_X4_cellAt : Cond.static yX4_cellAt ∈ lw_T := lw_T_mem (List.mem_of_getElem? (i := 659) (by decide +kernel)) (by decide +kernel)
set_option maxRecDepth 100000 in
theorem mw_X4_192 : Cond.methodLink RX4 192 yX4_cellAt ∈ lw_T := lw_T_mem (List.mem_of_getElem? (i := 931) (by decide +kernel)) (by decide +kernel)
theorem ci_X4_192 : CI RX4 192 yX4_cellAt cX4_cellAt 2 (some .int) 2 := ⟨mw_X4_192, cx_X4_cellAt, cw_X4_cellAt, by decide, by decide, by decide +kernel⟩
set_option maxRecDepth 100000 in
theorem cw_X0_firstFrom : Cond.code yX0_firstFrom cX0_firstFrom 3 (some .int) ∈ lw_T := lw_T_mem (List.mem_of_getElem? (i := 942) (by decide +kernel)) (by decide +kernel)
set_option maxRecDepth 100000 in
theorem cx_X0_firstFrom : Cond.initialized yX0_firstFrom.cls ∈ lw_T := lw_T_mem (List.mem_of_getElem? (i := 50) (by decide +kernel)) (by decide +kernel)
set_option maxRecDepth 100000 in
theorem ct_X0_firstFrom : Cond.instanceMethod yX0_firstFrom ∈ lw_T := lw_T_mem (List.mem_of_getElem? (i := 940) (by decide +kernel)) (by decide +kernel)
set_option maxRecDepth 100000 in
theorem cs_X0_firstFrom : Cond.selects yX0_firstFrom.cls yX0_firstFrom yX0_firstFrom ∈ lw_T := lw_T_mem (List.mem_of_getElem? (i := 941) (by decide +kernel)) (by decide +kernel)
set_option maxRecDepth 100000 in
theorem mw_X4_196 : Cond.methodLink RX4 196 yX0_firstFrom ∈ lw_T := lw_T_mem (List.mem_of_getElem? (i := 939) (by decide +kernel)) (by decide +kernel)
theorem ci_X4_196 : CI RX4 196 yX0_firstFrom cX0_firstFrom 3 (some .int) 1 := ⟨mw_X4_196, cx_X0_firstFrom, cw_X0_firstFrom, by decide, by decide, by decide +kernel⟩
set_option maxRecDepth 100000 in
theorem fw_X4_199 : Cond.fieldLink RX4 199 "RackPlanner$Machine" "slots" "I" ∈ lw_T := lw_T_mem (List.mem_of_getElem? (i := 817) (by decide +kernel)) (by decide +kernel)
theorem fd_X4_199_4 : FD RX4 199 4 1 := ⟨RX1, TX1, 7, "RackPlanner$Machine", rfl, in_X1, by decide, fw_X4_199, (fun s args x _ h => h)⟩
set_option maxRecDepth 100000 in
theorem cw_X4_powerNow : Cond.code yX4_powerNow cX4_powerNow 4 (some .int) ∈ lw_T := lw_T_mem (List.mem_of_getElem? (i := 953) (by decide +kernel)) (by decide +kernel)
set_option maxRecDepth 100000 in
theorem cx_X4_powerNow : Cond.initialized yX4_powerNow.cls ∈ lw_T := lw_T_mem (List.mem_of_getElem? (i := 44) (by decide +kernel)) (by decide +kernel)
set_option maxRecDepth 100000 in
theorem ct_X4_powerNow : Cond.instanceMethod yX4_powerNow ∈ lw_T := lw_T_mem (List.mem_of_getElem? (i := 952) (by decide +kernel)) (by decide +kernel)
set_option maxRecDepth 100000 in
theorem cs_X4_powerNow : Cond.selects yX4_powerNow.cls yX4_powerNow yX4_powerNow ∈ lw_T := lw_T_mem (List.mem_of_getElem? (i := 21) (by decide +kernel)) (by decide +kernel)
set_option maxRecDepth 100000 in
theorem mw_X4_200 : Cond.methodLink RX4 200 yX4_powerNow ∈ lw_T := lw_T_mem (List.mem_of_getElem? (i := 950) (by decide +kernel)) (by decide +kernel)
theorem ci_X4_200 : CI RX4 200 yX4_powerNow cX4_powerNow 4 (some .int) 2 := ⟨mw_X4_200, cx_X4_powerNow, cw_X4_powerNow, by decide, by decide, by decide +kernel⟩
set_option maxRecDepth 100000 in
theorem fw_X4_204 : Cond.fieldLink RX4 204 "RackPlanner$Layout" "worst" "[[I" ∈ lw_T := lw_T_mem (List.mem_of_getElem? (i := 155) (by decide +kernel)) (by decide +kernel)
theorem fd_X4_204_3 : FD RX4 204 3 4 := ⟨RX0, TX0, 5, "RackPlanner$Layout", rfl, in_X0, by decide, fw_X4_204, (fun s args x _ h => h)⟩
set_option maxRecDepth 100000 in
theorem fw_X4_208 : Cond.fieldLink RX4 208 "RackPlanner$Layout" "weight" "[I" ∈ lw_T := lw_T_mem (List.mem_of_getElem? (i := 152) (by decide +kernel)) (by decide +kernel)
theorem fd_X4_208_3 : FD RX4 208 3 2 := ⟨RX0, TX0, 5, "RackPlanner$Layout", rfl, in_X0, by decide, fw_X4_208, (fun s args x _ h => h)⟩
set_option maxRecDepth 100000 in
theorem cw_X4_rowOfMachine : Cond.code yX4_rowOfMachine cX4_rowOfMachine 2 (some .int) ∈ lw_T := lw_T_mem (List.mem_of_getElem? (i := 978) (by decide +kernel)) (by decide +kernel)
set_option maxRecDepth 100000 in
theorem cx_X4_rowOfMachine : Cond.initialized yX4_rowOfMachine.cls ∈ lw_T := lw_T_mem (List.mem_of_getElem? (i := 44) (by decide +kernel)) (by decide +kernel)
set_option maxRecDepth 100000 in
theorem ct_X4_rowOfMachine : Cond.instanceMethod yX4_rowOfMachine ∈ lw_T := lw_T_mem (List.mem_of_getElem? (i := 977) (by decide +kernel)) (by decide +kernel)
set_option maxRecDepth 100000 in
theorem cs_X4_rowOfMachine : Cond.selects yX4_rowOfMachine.cls yX4_rowOfMachine yX4_rowOfMachine ∈ lw_T := lw_T_mem (List.mem_of_getElem? (i := 22) (by decide +kernel)) (by decide +kernel)
set_option maxRecDepth 100000 in
theorem mw_X4_211 : Cond.methodLink RX4 211 yX4_rowOfMachine ∈ lw_T := lw_T_mem (List.mem_of_getElem? (i := 975) (by decide +kernel)) (by decide +kernel)
theorem ci_X4_211 : CI RX4 211 yX4_rowOfMachine cX4_rowOfMachine 2 (some .int) 1 := ⟨mw_X4_211, cx_X4_rowOfMachine, cw_X4_rowOfMachine, by decide, by decide, by decide +kernel⟩
set_option maxRecDepth 100000 in
theorem fw_X4_214 : Cond.fieldLink RX4 214 "RackPlanner$Machine" "power" "I" ∈ lw_T := lw_T_mem (List.mem_of_getElem? (i := 820) (by decide +kernel)) (by decide +kernel)
theorem fd_X4_214_4 : FD RX4 214 4 2 := ⟨RX1, TX1, 7, "RackPlanner$Machine", rfl, in_X1, by decide, fw_X4_214, (fun s args x _ h => h)⟩
set_option maxRecDepth 100000 in
theorem cw_X0_widestGap : Cond.code yX0_widestGap cX0_widestGap 5 (some .int) ∈ lw_T := lw_T_mem (List.mem_of_getElem? (i := 989) (by decide +kernel)) (by decide +kernel)
set_option maxRecDepth 100000 in
theorem cx_X0_widestGap : Cond.initialized yX0_widestGap.cls ∈ lw_T := lw_T_mem (List.mem_of_getElem? (i := 50) (by decide +kernel)) (by decide +kernel)
set_option maxRecDepth 100000 in
theorem ct_X0_widestGap : Cond.instanceMethod yX0_widestGap ∈ lw_T := lw_T_mem (List.mem_of_getElem? (i := 987) (by decide +kernel)) (by decide +kernel)
set_option maxRecDepth 100000 in
theorem cs_X0_widestGap : Cond.selects yX0_widestGap.cls yX0_widestGap yX0_widestGap ∈ lw_T := lw_T_mem (List.mem_of_getElem? (i := 988) (by decide +kernel)) (by decide +kernel)
set_option maxRecDepth 100000 in
theorem mw_X4_217 : Cond.methodLink RX4 217 yX0_widestGap ∈ lw_T := lw_T_mem (List.mem_of_getElem? (i := 986) (by decide +kernel)) (by decide +kernel)
theorem ci_X4_217 : CI RX4 217 yX0_widestGap cX0_widestGap 5 (some .int) 1 := ⟨mw_X4_217, cx_X0_widestGap, cw_X0_widestGap, by decide, by decide, by decide +kernel⟩
set_option maxRecDepth 100000 in
theorem cw_X0_fitIn : Cond.code yX0_fitIn cX0_fitIn 3 (some .int) ∈ lw_T := lw_T_mem (List.mem_of_getElem? (i := 616) (by decide +kernel)) (by decide +kernel)
set_option maxRecDepth 100000 in
theorem cx_X0_fitIn : Cond.initialized yX0_fitIn.cls ∈ lw_T := lw_T_mem (List.mem_of_getElem? (i := 50) (by decide +kernel)) (by decide +kernel)
set_option maxRecDepth 100000 in
theorem ct_X0_fitIn : Cond.instanceMethod yX0_fitIn ∈ lw_T := lw_T_mem (List.mem_of_getElem? (i := 614) (by decide +kernel)) (by decide +kernel)
set_option maxRecDepth 100000 in
theorem cs_X0_fitIn : Cond.selects yX0_fitIn.cls yX0_fitIn yX0_fitIn ∈ lw_T := lw_T_mem (List.mem_of_getElem? (i := 615) (by decide +kernel)) (by decide +kernel)
set_option maxRecDepth 100000 in
theorem mw_X4_220 : Cond.methodLink RX4 220 yX0_fitIn ∈ lw_T := lw_T_mem (List.mem_of_getElem? (i := 998) (by decide +kernel)) (by decide +kernel)
theorem ci_X4_220 : CI RX4 220 yX0_fitIn cX0_fitIn 3 (some .int) 2 := ⟨mw_X4_220, cx_X0_fitIn, cw_X0_fitIn, by decide, by decide, by decide +kernel⟩
set_option maxRecDepth 100000 in
theorem cw_X0_copyFrom : Cond.code yX0_copyFrom cX0_copyFrom 3 none ∈ lw_T := lw_T_mem (List.mem_of_getElem? (i := 1009) (by decide +kernel)) (by decide +kernel)
set_option maxRecDepth 100000 in
theorem cx_X0_copyFrom : Cond.initialized yX0_copyFrom.cls ∈ lw_T := lw_T_mem (List.mem_of_getElem? (i := 50) (by decide +kernel)) (by decide +kernel)
set_option maxRecDepth 100000 in
theorem ct_X0_copyFrom : Cond.instanceMethod yX0_copyFrom ∈ lw_T := lw_T_mem (List.mem_of_getElem? (i := 1007) (by decide +kernel)) (by decide +kernel)
set_option maxRecDepth 100000 in
theorem cs_X0_copyFrom : Cond.selects yX0_copyFrom.cls yX0_copyFrom yX0_copyFrom ∈ lw_T := lw_T_mem (List.mem_of_getElem? (i := 1008) (by decide +kernel)) (by decide +kernel)
set_option maxRecDepth 100000 in
theorem mw_X4_224 : Cond.methodLink RX4 224 yX0_copyFrom ∈ lw_T := lw_T_mem (List.mem_of_getElem? (i := 1006) (by decide +kernel)) (by decide +kernel)
theorem ci_X4_224 : CI RX4 224 yX0_copyFrom cX0_copyFrom 3 none 1 := ⟨mw_X4_224, cx_X0_copyFrom, cw_X0_copyFrom, by decide, by decide, by decide +kernel⟩
set_option maxRecDepth 100000 in
theorem cw_X0_fillUp : Cond.code yX0_fillUp cX0_fillUp 5 (some .int) ∈ lw_T := lw_T_mem (List.mem_of_getElem? (i := 1014) (by decide +kernel)) (by decide +kernel)
set_option maxRecDepth 100000 in
theorem cx_X0_fillUp : Cond.initialized yX0_fillUp.cls ∈ lw_T := lw_T_mem (List.mem_of_getElem? (i := 50) (by decide +kernel)) (by decide +kernel)
set_option maxRecDepth 100000 in
theorem ct_X0_fillUp : Cond.instanceMethod yX0_fillUp ∈ lw_T := lw_T_mem (List.mem_of_getElem? (i := 1012) (by decide +kernel)) (by decide +kernel)
set_option maxRecDepth 100000 in
theorem cs_X0_fillUp : Cond.selects yX0_fillUp.cls yX0_fillUp yX0_fillUp ∈ lw_T := lw_T_mem (List.mem_of_getElem? (i := 1013) (by decide +kernel)) (by decide +kernel)
set_option maxRecDepth 100000 in
theorem mw_X4_228 : Cond.methodLink RX4 228 yX0_fillUp ∈ lw_T := lw_T_mem (List.mem_of_getElem? (i := 1011) (by decide +kernel)) (by decide +kernel)
theorem ci_X4_228 : CI RX4 228 yX0_fillUp cX0_fillUp 5 (some .int) 2 := ⟨mw_X4_228, cx_X0_fillUp, cw_X0_fillUp, by decide, by decide, by decide +kernel⟩
set_option maxRecDepth 100000 in
theorem cw_X0_countForRow : Cond.code yX0_countForRow cX0_countForRow 5 (some .int) ∈ lw_T := lw_T_mem (List.mem_of_getElem? (i := 1026) (by decide +kernel)) (by decide +kernel)
set_option maxRecDepth 100000 in
theorem cx_X0_countForRow : Cond.initialized yX0_countForRow.cls ∈ lw_T := lw_T_mem (List.mem_of_getElem? (i := 50) (by decide +kernel)) (by decide +kernel)
set_option maxRecDepth 100000 in
theorem ct_X0_countForRow : Cond.instanceMethod yX0_countForRow ∈ lw_T := lw_T_mem (List.mem_of_getElem? (i := 1024) (by decide +kernel)) (by decide +kernel)
set_option maxRecDepth 100000 in
theorem cs_X0_countForRow : Cond.selects yX0_countForRow.cls yX0_countForRow yX0_countForRow ∈ lw_T := lw_T_mem (List.mem_of_getElem? (i := 1025) (by decide +kernel)) (by decide +kernel)
set_option maxRecDepth 100000 in
theorem mw_X4_231 : Cond.methodLink RX4 231 yX0_countForRow ∈ lw_T := lw_T_mem (List.mem_of_getElem? (i := 1023) (by decide +kernel)) (by decide +kernel)
theorem ci_X4_231 : CI RX4 231 yX0_countForRow cX0_countForRow 5 (some .int) 2 := ⟨mw_X4_231, cx_X0_countForRow, cw_X0_countForRow, by decide, by decide, by decide +kernel⟩
set_option maxRecDepth 100000 in
theorem cw_X1_worstOn : Cond.code yX1_worstOn cX1_worstOn 2 (some .int) ∈ lw_T := lw_T_mem (List.mem_of_getElem? (i := 638) (by decide +kernel)) (by decide +kernel)
set_option maxRecDepth 100000 in
theorem cx_X1_worstOn : Cond.initialized yX1_worstOn.cls ∈ lw_T := lw_T_mem (List.mem_of_getElem? (i := 63) (by decide +kernel)) (by decide +kernel)
set_option maxRecDepth 100000 in
theorem ct_X1_worstOn : Cond.instanceMethod yX1_worstOn ∈ lw_T := lw_T_mem (List.mem_of_getElem? (i := 636) (by decide +kernel)) (by decide +kernel)
set_option maxRecDepth 100000 in
theorem cs_X1_worstOn : Cond.selects yX1_worstOn.cls yX1_worstOn yX1_worstOn ∈ lw_T := lw_T_mem (List.mem_of_getElem? (i := 637) (by decide +kernel)) (by decide +kernel)
set_option maxRecDepth 100000 in
theorem mw_X4_234 : Cond.methodLink RX4 234 yX1_worstOn ∈ lw_T := lw_T_mem (List.mem_of_getElem? (i := 1039) (by decide +kernel)) (by decide +kernel)
theorem ci_X4_234 : CI RX4 234 yX1_worstOn cX1_worstOn 2 (some .int) 1 := ⟨mw_X4_234, cx_X1_worstOn, cw_X1_worstOn, by decide, by decide, by decide +kernel⟩
set_option maxRecDepth 100000 in
theorem cw_X4_atMost : Cond.code yX4_atMost cX4_atMost 3 (some .int) ∈ lw_T := lw_T_mem (List.mem_of_getElem? (i := 1037) (by decide +kernel)) (by decide +kernel)
set_option maxRecDepth 100000 in
theorem cx_X4_atMost : Cond.initialized yX4_atMost.cls ∈ lw_T := lw_T_mem (List.mem_of_getElem? (i := 44) (by decide +kernel)) (by decide +kernel)
set_option maxRecDepth 100000 in
theorem ct_X4_atMost : Cond.static yX4_atMost ∈ lw_T := lw_T_mem (List.mem_of_getElem? (i := 1036) (by decide +kernel)) (by decide +kernel)
set_option maxRecDepth 100000 in
theorem mw_X4_237 : Cond.methodLink RX4 237 yX4_atMost ∈ lw_T := lw_T_mem (List.mem_of_getElem? (i := 1040) (by decide +kernel)) (by decide +kernel)
theorem ci_X4_237 : CI RX4 237 yX4_atMost cX4_atMost 3 (some .int) 3 := ⟨mw_X4_237, cx_X4_atMost, cw_X4_atMost, by decide, by decide, by decide +kernel⟩
set_option maxRecDepth 100000 in
theorem tk_X4_241 : Cond.classLink RX4 241 "java/lang/IllegalArgumentException" ∈ lw_T := lw_T_mem (List.mem_of_getElem? (i := 700) (by decide +kernel)) (by decide +kernel)
set_option maxRecDepth 100000 in
theorem cw_X1_init : Cond.code yX1_init cX1_init 6 none ∈ lw_T := lw_T_mem (List.mem_of_getElem? (i := 810) (by decide +kernel)) (by decide +kernel)
set_option maxRecDepth 100000 in
theorem cx_X1_init : Cond.initialized yX1_init.cls ∈ lw_T := lw_T_mem (List.mem_of_getElem? (i := 63) (by decide +kernel)) (by decide +kernel)
set_option maxRecDepth 100000 in
theorem ct_X1_init : Cond.instanceMethod yX1_init ∈ lw_T := lw_T_mem (List.mem_of_getElem? (i := 809) (by decide +kernel)) (by decide +kernel)
set_option maxRecDepth 100000 in
theorem mw_X4_250 : Cond.methodLink RX4 250 yX1_init ∈ lw_T := lw_T_mem (List.mem_of_getElem? (i := 808) (by decide +kernel)) (by decide +kernel)
theorem ci_X4_250 : CI RX4 250 yX1_init cX1_init 6 none 5 := ⟨mw_X4_250, cx_X1_init, cw_X1_init, by decide, by decide, by decide +kernel⟩
set_option maxRecDepth 100000 in
theorem fw_X4_253 : Cond.fieldLink RX4 253 "RackPlanner$Rack" "row" "I" ∈ lw_T := lw_T_mem (List.mem_of_getElem? (i := 727) (by decide +kernel)) (by decide +kernel)
theorem fd_X4_253_5 : FD RX4 253 5 0 := ⟨RX2, TX2, 4, "RackPlanner$Rack", rfl, in_X2, by decide, fw_X4_253, (fun s args x _ h => h)⟩
set_option maxRecDepth 100000 in
theorem cw_X1_hasCordTo : Cond.code yX1_hasCordTo cX1_hasCordTo 2 (some .boolean) ∈ lw_T := lw_T_mem (List.mem_of_getElem? (i := 788) (by decide +kernel)) (by decide +kernel)
set_option maxRecDepth 100000 in
theorem cx_X1_hasCordTo : Cond.initialized yX1_hasCordTo.cls ∈ lw_T := lw_T_mem (List.mem_of_getElem? (i := 63) (by decide +kernel)) (by decide +kernel)
set_option maxRecDepth 100000 in
theorem ct_X1_hasCordTo : Cond.instanceMethod yX1_hasCordTo ∈ lw_T := lw_T_mem (List.mem_of_getElem? (i := 786) (by decide +kernel)) (by decide +kernel)
set_option maxRecDepth 100000 in
theorem cs_X1_hasCordTo : Cond.selects yX1_hasCordTo.cls yX1_hasCordTo yX1_hasCordTo ∈ lw_T := lw_T_mem (List.mem_of_getElem? (i := 787) (by decide +kernel)) (by decide +kernel)
set_option maxRecDepth 100000 in
theorem mw_X4_256 : Cond.methodLink RX4 256 yX1_hasCordTo ∈ lw_T := lw_T_mem (List.mem_of_getElem? (i := 785) (by decide +kernel)) (by decide +kernel)
theorem ci_X4_256 : CI RX4 256 yX1_hasCordTo cX1_hasCordTo 2 (some .boolean) 1 := ⟨mw_X4_256, cx_X1_hasCordTo, cw_X1_hasCordTo, by decide, by decide, by decide +kernel⟩
set_option maxRecDepth 100000 in
theorem cw_Jx4a65c_clear_da8c8 : Cond.code yJx4a65c_clear_da8c8 cJx4a65c_clear_da8c8 4 none ∈ lw_T := lw_T_mem (List.mem_of_getElem? (i := 209) (by decide +kernel)) (by decide +kernel)
set_option maxRecDepth 100000 in
theorem cx_Jx4a65c_clear_da8c8 : Cond.initialized yJx4a65c_clear_da8c8.cls ∈ lw_T := lw_T_mem (List.mem_of_getElem? (i := 48) (by decide +kernel)) (by decide +kernel)
set_option maxRecDepth 100000 in
theorem ct_Jx4a65c_clear_da8c8 : Cond.instanceMethod yJx4a65c_clear_da8c8 ∈ lw_T := lw_T_mem (List.mem_of_getElem? (i := 207) (by decide +kernel)) (by decide +kernel)
set_option maxRecDepth 100000 in
theorem cs_Jx4a65c_clear_da8c8 : Cond.selects yJx4a65c_clear_da8c8.cls yJx4a65c_clear_da8c8 yJx4a65c_clear_da8c8 ∈ lw_T := lw_T_mem (List.mem_of_getElem? (i := 208) (by decide +kernel)) (by decide +kernel)
set_option maxRecDepth 100000 in
theorem mw_X4_260 : Cond.methodLink RX4 260 yJx4a65c_clear_da8c8 ∈ lw_T := lw_T_mem (List.mem_of_getElem? (i := 206) (by decide +kernel)) (by decide +kernel)
theorem ci_X4_260 : CI RX4 260 yJx4a65c_clear_da8c8 cJx4a65c_clear_da8c8 4 none 0 := ⟨mw_X4_260, cx_Jx4a65c_clear_da8c8, cw_Jx4a65c_clear_da8c8, by decide, by decide, by decide +kernel⟩
set_option maxRecDepth 100000 in
theorem cw_X1_packsAhead : Cond.code yX1_packsAhead cX1_packsAhead 2 (some .boolean) ∈ lw_T := lw_T_mem (List.mem_of_getElem? (i := 228) (by decide +kernel)) (by decide +kernel)
set_option maxRecDepth 100000 in
theorem cx_X1_packsAhead : Cond.initialized yX1_packsAhead.cls ∈ lw_T := lw_T_mem (List.mem_of_getElem? (i := 63) (by decide +kernel)) (by decide +kernel)
set_option maxRecDepth 100000 in
theorem ct_X1_packsAhead : Cond.instanceMethod yX1_packsAhead ∈ lw_T := lw_T_mem (List.mem_of_getElem? (i := 226) (by decide +kernel)) (by decide +kernel)
set_option maxRecDepth 100000 in
theorem cs_X1_packsAhead : Cond.selects yX1_packsAhead.cls yX1_packsAhead yX1_packsAhead ∈ lw_T := lw_T_mem (List.mem_of_getElem? (i := 227) (by decide +kernel)) (by decide +kernel)
set_option maxRecDepth 100000 in
theorem mw_X4_262 : Cond.methodLink RX4 262 yX1_packsAhead ∈ lw_T := lw_T_mem (List.mem_of_getElem? (i := 225) (by decide +kernel)) (by decide +kernel)
theorem ci_X4_262 : CI RX4 262 yX1_packsAhead cX1_packsAhead 2 (some .boolean) 1 := ⟨mw_X4_262, cx_X1_packsAhead, cw_X1_packsAhead, by decide, by decide, by decide +kernel⟩
set_option maxRecDepth 100000 in
theorem cw_Jx4a65c_add_7a177 : Cond.code yJx4a65c_add_7a177 cJx4a65c_add_7a177 5 none ∈ lw_T := lw_T_mem (List.mem_of_getElem? (i := 232) (by decide +kernel)) (by decide +kernel)
set_option maxRecDepth 100000 in
theorem cx_Jx4a65c_add_7a177 : Cond.initialized yJx4a65c_add_7a177.cls ∈ lw_T := lw_T_mem (List.mem_of_getElem? (i := 48) (by decide +kernel)) (by decide +kernel)
set_option maxRecDepth 100000 in
theorem ct_Jx4a65c_add_7a177 : Cond.instanceMethod yJx4a65c_add_7a177 ∈ lw_T := lw_T_mem (List.mem_of_getElem? (i := 230) (by decide +kernel)) (by decide +kernel)
set_option maxRecDepth 100000 in
theorem cs_Jx4a65c_add_7a177 : Cond.selects yJx4a65c_add_7a177.cls yJx4a65c_add_7a177 yJx4a65c_add_7a177 ∈ lw_T := lw_T_mem (List.mem_of_getElem? (i := 231) (by decide +kernel)) (by decide +kernel)
set_option maxRecDepth 100000 in
theorem mw_X4_265 : Cond.methodLink RX4 265 yJx4a65c_add_7a177 ∈ lw_T := lw_T_mem (List.mem_of_getElem? (i := 229) (by decide +kernel)) (by decide +kernel)
theorem ci_X4_265 : CI RX4 265 yJx4a65c_add_7a177 cJx4a65c_add_7a177 5 none 2 := ⟨mw_X4_265, cx_Jx4a65c_add_7a177, cw_Jx4a65c_add_7a177, by decide, by decide, by decide +kernel⟩
set_option maxRecDepth 100000 in
theorem cw_J9_min_7cf53 : Cond.code yJ9_min_7cf53 cJ9_min_7cf53 2 (some .int) ∈ lw_T := lw_T_mem (List.mem_of_getElem? (i := 357) (by decide +kernel)) (by decide +kernel)
set_option maxRecDepth 100000 in
theorem cx_J9_min_7cf53 : Cond.initialized yJ9_min_7cf53.cls ∈ lw_T := lw_T_mem (List.mem_of_getElem? (i := 59) (by decide +kernel)) (by decide +kernel)
set_option maxRecDepth 100000 in
theorem ct_J9_min_7cf53 : Cond.static yJ9_min_7cf53 ∈ lw_T := lw_T_mem (List.mem_of_getElem? (i := 356) (by decide +kernel)) (by decide +kernel)
set_option maxRecDepth 100000 in
theorem mw_X4_268 : Cond.methodLink RX4 268 yJ9_min_7cf53 ∈ lw_T := lw_T_mem (List.mem_of_getElem? (i := 1038) (by decide +kernel)) (by decide +kernel)
theorem ci_X4_268 : CI RX4 268 yJ9_min_7cf53 cJ9_min_7cf53 2 (some .int) 2 := ⟨mw_X4_268, cx_J9_min_7cf53, cw_J9_min_7cf53, by decide, by decide, by decide +kernel⟩
set_option maxRecDepth 100000 in
theorem tw_m_X0_3 : Cond.methodLink RX0 3 objectInit ∈ lw_T := lw_T_mem (List.mem_of_getElem? (i := 144) (by decide +kernel)) (by decide +kernel)
set_option maxRecDepth 100000 in
theorem fw_X0_9 : Cond.fieldLink RX0 9 "RackPlanner$Layout" "inCell" "[I" ∈ lw_T := lw_T_mem (List.mem_of_getElem? (i := 149) (by decide +kernel)) (by decide +kernel)
theorem fd_X0_9_3 : FD RX0 9 3 1 := ⟨RX0, TX0, 5, "RackPlanner$Layout", rfl, in_X0, by decide, fw_X0_9, (fun s args x _ h => h)⟩
theorem fp_X0_9_3 : FP RX0 9 3 1 (.array .int) true := ⟨RX0, TX0, 5, "RackPlanner$Layout", tyX0, ⟨rfl, in_X0, by decide, fw_X0_9, (fun s args x _ h => h)⟩, tyX0_ok, nmX0, by decide +kernel, rfl, fun _ => rfl⟩
set_option maxRecDepth 100000 in
theorem fw_X0_15 : Cond.fieldLink RX0 15 "RackPlanner$Layout" "weight" "[I" ∈ lw_T := lw_T_mem (List.mem_of_getElem? (i := 151) (by decide +kernel)) (by decide +kernel)
theorem fd_X0_15_3 : FD RX0 15 3 2 := ⟨RX0, TX0, 5, "RackPlanner$Layout", rfl, in_X0, by decide, fw_X0_15, (fun s args x _ h => h)⟩
theorem fp_X0_15_3 : FP RX0 15 3 2 (.array .int) true := ⟨RX0, TX0, 5, "RackPlanner$Layout", tyX0, ⟨rfl, in_X0, by decide, fw_X0_15, (fun s args x _ h => h)⟩, tyX0_ok, nmX0, by decide +kernel, rfl, fun _ => rfl⟩
set_option maxRecDepth 100000 in
theorem fw_X0_18 : Cond.fieldLink RX0 18 "RackPlanner$Layout" "heat" "[I" ∈ lw_T := lw_T_mem (List.mem_of_getElem? (i := 153) (by decide +kernel)) (by decide +kernel)
theorem fd_X0_18_3 : FD RX0 18 3 3 := ⟨RX0, TX0, 5, "RackPlanner$Layout", rfl, in_X0, by decide, fw_X0_18, (fun s args x _ h => h)⟩
theorem fp_X0_18_3 : FP RX0 18 3 3 (.array .int) true := ⟨RX0, TX0, 5, "RackPlanner$Layout", tyX0, ⟨rfl, in_X0, by decide, fw_X0_18, (fun s args x _ h => h)⟩, tyX0_ok, nmX0, by decide +kernel, rfl, fun _ => rfl⟩
set_option maxRecDepth 100000 in
theorem tk_X0_21 : Cond.classLink RX0 21 "[[I" ∈ lw_T := lw_T_mem (List.mem_of_getElem? (i := 145) (by decide +kernel)) (by decide +kernel)
set_option maxRecDepth 100000 in
theorem fw_X0_23 : Cond.fieldLink RX0 23 "RackPlanner$Layout" "worst" "[[I" ∈ lw_T := lw_T_mem (List.mem_of_getElem? (i := 154) (by decide +kernel)) (by decide +kernel)
theorem fd_X0_23_3 : FD RX0 23 3 4 := ⟨RX0, TX0, 5, "RackPlanner$Layout", rfl, in_X0, by decide, fw_X0_23, (fun s args x _ h => h)⟩
theorem fp_X0_23_3 : FP RX0 23 3 4 (.array (.array .int)) true := ⟨RX0, TX0, 5, "RackPlanner$Layout", tyX0, ⟨rfl, in_X0, by decide, fw_X0_23, (fun s args x _ h => h)⟩, tyX0_ok, nmX0, by decide +kernel, rfl, fun _ => rfl⟩
set_option maxRecDepth 100000 in
theorem fw_X0_26 : Cond.fieldLink RX0 26 "RackPlanner$Layout" "site" "LRackPlanner$Site;" ∈ lw_T := lw_T_mem (List.mem_of_getElem? (i := 148) (by decide +kernel)) (by decide +kernel)
theorem fd_X0_26_3 : FD RX0 26 3 0 := ⟨RX0, TX0, 5, "RackPlanner$Layout", rfl, in_X0, by decide, fw_X0_26, (fun s args x _ h => h)⟩
theorem fp_X0_26_3 : FP RX0 26 3 0 (.object "RackPlanner$Site") true := ⟨RX0, TX0, 5, "RackPlanner$Layout", tyX0, ⟨rfl, in_X0, by decide, fw_X0_26, (fun s args x _ h => h)⟩, tyX0_ok, nmX0, by decide +kernel, rfl, fun _ => rfl⟩
set_option maxRecDepth 100000 in
theorem cw_J7_fill_53178 : Cond.code yJ7_fill_53178 cJ7_fill_53178 4 none ∈ lw_T := lw_T_mem (List.mem_of_getElem? (i := 114) (by decide +kernel)) (by decide +kernel)
set_option maxRecDepth 100000 in
theorem cx_J7_fill_53178 : Cond.initialized yJ7_fill_53178.cls ∈ lw_T := lw_T_mem (List.mem_of_getElem? (i := 49) (by decide +kernel)) (by decide +kernel)
set_option maxRecDepth 100000 in
theorem ct_J7_fill_53178 : Cond.static yJ7_fill_53178 ∈ lw_T := lw_T_mem (List.mem_of_getElem? (i := 113) (by decide +kernel)) (by decide +kernel)
set_option maxRecDepth 100000 in
theorem mw_X0_30 : Cond.methodLink RX0 30 yJ7_fill_53178 ∈ lw_T := lw_T_mem (List.mem_of_getElem? (i := 147) (by decide +kernel)) (by decide +kernel)
theorem ci_X0_30 : CI RX0 30 yJ7_fill_53178 cJ7_fill_53178 4 none 2 := ⟨mw_X0_30, cx_J7_fill_53178, cw_J7_fill_53178, by decide, by decide, by decide +kernel⟩
set_option maxRecDepth 100000 in
theorem fw_X0_42 : Cond.fieldLink RX0 42 "RackPlanner$Machine" "slots" "I" ∈ lw_T := lw_T_mem (List.mem_of_getElem? (i := 816) (by decide +kernel)) (by decide +kernel)
theorem fd_X0_42_4 : FD RX0 42 4 1 := ⟨RX1, TX1, 7, "RackPlanner$Machine", rfl, in_X1, by decide, fw_X0_42, (fun s args x _ h => h)⟩
set_option maxRecDepth 100000 in
theorem fw_X0_48 : Cond.fieldLink RX0 48 "RackPlanner$Machine" "number" "I" ∈ lw_T := lw_T_mem (List.mem_of_getElem? (i := 813) (by decide +kernel)) (by decide +kernel)
theorem fd_X0_48_4 : FD RX0 48 4 0 := ⟨RX1, TX1, 7, "RackPlanner$Machine", rfl, in_X1, by decide, fw_X0_48, (fun s args x _ h => h)⟩
set_option maxRecDepth 100000 in
theorem cw_X0_fillCells : Cond.code yX0_fillCells cX0_fillCells 5 none ∈ lw_T := lw_T_mem (List.mem_of_getElem? (i := 668) (by decide +kernel)) (by decide +kernel)
set_option maxRecDepth 100000 in
theorem cx_X0_fillCells : Cond.initialized yX0_fillCells.cls ∈ lw_T := lw_T_mem (List.mem_of_getElem? (i := 50) (by decide +kernel)) (by decide +kernel)
set_option maxRecDepth 100000 in
theorem ct_X0_fillCells : Cond.instanceMethod yX0_fillCells ∈ lw_T := lw_T_mem (List.mem_of_getElem? (i := 667) (by decide +kernel)) (by decide +kernel)
set_option maxRecDepth 100000 in
theorem cs_X0_fillCells : Cond.selects yX0_fillCells.cls yX0_fillCells yX0_fillCells ∈ lw_T := lw_T_mem (List.mem_of_getElem? (i := 10) (by decide +kernel)) (by decide +kernel)
set_option maxRecDepth 100000 in
theorem mw_X0_51 : Cond.methodLink RX0 51 yX0_fillCells ∈ lw_T := lw_T_mem (List.mem_of_getElem? (i := 665) (by decide +kernel)) (by decide +kernel)
theorem ci_X0_51 : CI RX0 51 yX0_fillCells cX0_fillCells 5 none 3 := ⟨mw_X0_51, cx_X0_fillCells, cw_X0_fillCells, by decide, by decide, by decide +kernel⟩
set_option maxRecDepth 100000 in
theorem mw_X0_55 : Cond.methodLinkNest RX0 55 yX4_rackOfCell "RackPlanner" ∈ lw_T := lw_T_mem (List.mem_of_getElem? (i := 669) (by decide +kernel)) (by decide +kernel)
theorem cn_X0_55 : Cond.methodLinkNest RX0 55 yX4_rackOfCell "RackPlanner" ∈ lw_T ∧ Cond.initialized yX4_rackOfCell.cls ∈ lw_T ∧ Cond.code yX4_rackOfCell cX4_rackOfCell 1 (some .int) ∈ lw_T ∧ (yX4_rackOfCell.cls ≠ "java/lang/invoke/MethodHandle" ∧ yX4_rackOfCell.cls ≠ "java/lang/invoke/VarHandle" ∧ (parseMethodDescriptor yX4_rackOfCell.desc).map (fun d => d.parameters.length) = some 1) := ⟨mw_X0_55, cx_X4_rackOfCell, cw_X4_rackOfCell, by decide, by decide, by decide +kernel⟩
set_option maxRecDepth 100000 in
theorem cw_X0_addLoads : Cond.code yX0_addLoads cX0_addLoads 5 none ∈ lw_T := lw_T_mem (List.mem_of_getElem? (i := 675) (by decide +kernel)) (by decide +kernel)
set_option maxRecDepth 100000 in
theorem cx_X0_addLoads : Cond.initialized yX0_addLoads.cls ∈ lw_T := lw_T_mem (List.mem_of_getElem? (i := 50) (by decide +kernel)) (by decide +kernel)
set_option maxRecDepth 100000 in
theorem ct_X0_addLoads : Cond.instanceMethod yX0_addLoads ∈ lw_T := lw_T_mem (List.mem_of_getElem? (i := 674) (by decide +kernel)) (by decide +kernel)
set_option maxRecDepth 100000 in
theorem cs_X0_addLoads : Cond.selects yX0_addLoads.cls yX0_addLoads yX0_addLoads ∈ lw_T := lw_T_mem (List.mem_of_getElem? (i := 11) (by decide +kernel)) (by decide +kernel)
set_option maxRecDepth 100000 in
theorem mw_X0_59 : Cond.methodLink RX0 59 yX0_addLoads ∈ lw_T := lw_T_mem (List.mem_of_getElem? (i := 672) (by decide +kernel)) (by decide +kernel)
theorem ci_X0_59 : CI RX0 59 yX0_addLoads cX0_addLoads 5 none 3 := ⟨mw_X0_59, cx_X0_addLoads, cw_X0_addLoads, by decide, by decide, by decide +kernel⟩
set_option maxRecDepth 100000 in
theorem fw_X0_63 : Cond.fieldLink RX0 63 "RackPlanner$Machine" "cell" "I" ∈ lw_T := lw_T_mem (List.mem_of_getElem? (i := 827) (by decide +kernel)) (by decide +kernel)
theorem fd_X0_63_4 : FD RX0 63 4 5 := ⟨RX1, TX1, 7, "RackPlanner$Machine", rfl, in_X1, by decide, fw_X0_63, (fun s args x _ h => h)⟩
theorem fp_X0_63_4 : FP RX0 63 4 5 .int false := ⟨RX1, TX1, 7, "RackPlanner$Machine", tyX1, ⟨rfl, in_X1, by decide, fw_X0_63, (fun s args x _ h => h)⟩, tyX1_ok, nmX1, by decide +kernel, rfl, fun h => by cases h⟩
set_option maxRecDepth 100000 in
theorem fw_X0_66 : Cond.fieldLink RX0 66 "RackPlanner$Machine" "weight" "I" ∈ lw_T := lw_T_mem (List.mem_of_getElem? (i := 822) (by decide +kernel)) (by decide +kernel)
theorem fd_X0_66_4 : FD RX0 66 4 3 := ⟨RX1, TX1, 7, "RackPlanner$Machine", rfl, in_X1, by decide, fw_X0_66, (fun s args x _ h => h)⟩
set_option maxRecDepth 100000 in
theorem fw_X0_68 : Cond.fieldLink RX0 68 "RackPlanner$Machine" "power" "I" ∈ lw_T := lw_T_mem (List.mem_of_getElem? (i := 819) (by decide +kernel)) (by decide +kernel)
theorem fd_X0_68_4 : FD RX0 68 4 2 := ⟨RX1, TX1, 7, "RackPlanner$Machine", rfl, in_X1, by decide, fw_X0_68, (fun s args x _ h => h)⟩
set_option maxRecDepth 100000 in
theorem mw_X0_71 : Cond.methodLink RX0 71 yX1_worstOn ∈ lw_T := lw_T_mem (List.mem_of_getElem? (i := 635) (by decide +kernel)) (by decide +kernel)
theorem ci_X0_71 : CI RX0 71 yX1_worstOn cX1_worstOn 2 (some .int) 1 := ⟨mw_X0_71, cx_X1_worstOn, cw_X1_worstOn, by decide, by decide, by decide +kernel⟩
set_option maxRecDepth 100000 in
theorem cw_X1_worstWith : Cond.code yX1_worstWith cX1_worstWith 3 (some .int) ∈ lw_T := lw_T_mem (List.mem_of_getElem? (i := 642) (by decide +kernel)) (by decide +kernel)
set_option maxRecDepth 100000 in
theorem cx_X1_worstWith : Cond.initialized yX1_worstWith.cls ∈ lw_T := lw_T_mem (List.mem_of_getElem? (i := 63) (by decide +kernel)) (by decide +kernel)
set_option maxRecDepth 100000 in
theorem ct_X1_worstWith : Cond.instanceMethod yX1_worstWith ∈ lw_T := lw_T_mem (List.mem_of_getElem? (i := 640) (by decide +kernel)) (by decide +kernel)
set_option maxRecDepth 100000 in
theorem cs_X1_worstWith : Cond.selects yX1_worstWith.cls yX1_worstWith yX1_worstWith ∈ lw_T := lw_T_mem (List.mem_of_getElem? (i := 641) (by decide +kernel)) (by decide +kernel)
set_option maxRecDepth 100000 in
theorem mw_X0_74 : Cond.methodLink RX0 74 yX1_worstWith ∈ lw_T := lw_T_mem (List.mem_of_getElem? (i := 891) (by decide +kernel)) (by decide +kernel)
theorem ci_X0_74 : CI RX0 74 yX1_worstWith cX1_worstWith 3 (some .int) 2 := ⟨mw_X0_74, cx_X1_worstWith, cw_X1_worstWith, by decide, by decide, by decide +kernel⟩
set_option maxRecDepth 100000 in
theorem fw_X0_78 : Cond.fieldLink RX0 78 "RackPlanner$Machine" "cords" "I" ∈ lw_T := lw_T_mem (List.mem_of_getElem? (i := 824) (by decide +kernel)) (by decide +kernel)
theorem fd_X0_78_4 : FD RX0 78 4 4 := ⟨RX1, TX1, 7, "RackPlanner$Machine", rfl, in_X1, by decide, fw_X0_78, (fun s args x _ h => h)⟩
theorem fp_X0_78_4 : FP RX0 78 4 4 .int false := ⟨RX1, TX1, 7, "RackPlanner$Machine", tyX1, ⟨rfl, in_X1, by decide, fw_X0_78, (fun s args x _ h => h)⟩, tyX1_ok, nmX1, by decide +kernel, rfl, fun h => by cases h⟩
set_option maxRecDepth 100000 in
theorem cw_X0_sumInRow : Cond.code yX0_sumInRow cX0_sumInRow 5 (some .int) ∈ lw_T := lw_T_mem (List.mem_of_getElem? (i := 630) (by decide +kernel)) (by decide +kernel)
set_option maxRecDepth 100000 in
theorem cx_X0_sumInRow : Cond.initialized yX0_sumInRow.cls ∈ lw_T := lw_T_mem (List.mem_of_getElem? (i := 50) (by decide +kernel)) (by decide +kernel)
set_option maxRecDepth 100000 in
theorem ct_X0_sumInRow : Cond.instanceMethod yX0_sumInRow ∈ lw_T := lw_T_mem (List.mem_of_getElem? (i := 629) (by decide +kernel)) (by decide +kernel)
set_option maxRecDepth 100000 in
theorem cs_X0_sumInRow : Cond.selects yX0_sumInRow.cls yX0_sumInRow yX0_sumInRow ∈ lw_T := lw_T_mem (List.mem_of_getElem? (i := 7) (by decide +kernel)) (by decide +kernel)
set_option maxRecDepth 100000 in
theorem mw_X0_81 : Cond.methodLink RX0 81 yX0_sumInRow ∈ lw_T := lw_T_mem (List.mem_of_getElem? (i := 627) (by decide +kernel)) (by decide +kernel)
theorem ci_X0_81 : CI RX0 81 yX0_sumInRow cX0_sumInRow 5 (some .int) 2 := ⟨mw_X0_81, cx_X0_sumInRow, cw_X0_sumInRow, by decide, by decide, by decide +kernel⟩
set_option maxRecDepth 100000 in
theorem fw_X0_85 : Cond.fieldLink RX0 85 "RackPlanner$Site" "racks" "Ljava/util/ArrayList;" ∈ lw_T := lw_T_mem (List.mem_of_getElem? (i := 117) (by decide +kernel)) (by decide +kernel)
theorem fd_X0_85_6 : FD RX0 85 6 0 := ⟨RX3, TX3, 4, "RackPlanner$Site", rfl, in_X3, by decide, fw_X0_85, (fun s args x _ h => h)⟩
set_option maxRecDepth 100000 in
theorem mw_X0_91 : Cond.methodLink RX0 91 yJx4a65c_size_8abf5 ∈ lw_T := lw_T_mem (List.mem_of_getElem? (i := 612) (by decide +kernel)) (by decide +kernel)
theorem ci_X0_91 : CI RX0 91 yJx4a65c_size_8abf5 cJx4a65c_size_8abf5 1 (some .int) 0 := ⟨mw_X0_91, cx_Jx4a65c_size_8abf5, cw_Jx4a65c_size_8abf5, by decide, by decide, by decide +kernel⟩
set_option maxRecDepth 100000 in
theorem mw_X0_97 : Cond.methodLink RX0 97 yJx4a65c_get_915e3 ∈ lw_T := lw_T_mem (List.mem_of_getElem? (i := 621) (by decide +kernel)) (by decide +kernel)
theorem ci_X0_97 : CI RX0 97 yJx4a65c_get_915e3 cJx4a65c_get_915e3 2 (some (.object "java/lang/Object")) 1 := ⟨mw_X0_97, cx_Jx4a65c_get_915e3, cw_Jx4a65c_get_915e3, by decide, by decide, by decide +kernel⟩
set_option maxRecDepth 100000 in
theorem tk_X0_101 : Cond.classLink RX0 101 "RackPlanner$Rack" ∈ lw_T := lw_T_mem (List.mem_of_getElem? (i := 622) (by decide +kernel)) (by decide +kernel)
set_option maxRecDepth 100000 in
theorem iw_X0_101 : Cond.instantiable RX2 4 ∈ lw_T := lw_T_mem (List.mem_of_getElem? (i := 720) (by decide +kernel)) (by decide +kernel)
set_option maxRecDepth 100000 in
theorem ix_X0_101 : Cond.initialized RX2 ∈ lw_T := lw_T_mem (List.mem_of_getElem? (i := 57) (by decide +kernel)) (by decide +kernel)
theorem fn_X0_101 : FN RX0 101 5 4 [.int 0, .int 0, .int 0, .int 0] := ⟨RX2, TX2, tyX2, rfl, in_X2, tyX2_ok, tk_X0_101, iw_X0_101, ix_X0_101, by intro j hj; rcases (show j = 0 ∨ j = 1 ∨ j = 2 ∨ j = 3 by omega) with rfl | rfl | rfl | rfl <;> rfl⟩
set_option maxRecDepth 100000 in
theorem fw_X0_103 : Cond.fieldLink RX0 103 "RackPlanner$Rack" "row" "I" ∈ lw_T := lw_T_mem (List.mem_of_getElem? (i := 726) (by decide +kernel)) (by decide +kernel)
theorem fd_X0_103_5 : FD RX0 103 5 0 := ⟨RX2, TX2, 4, "RackPlanner$Rack", rfl, in_X2, by decide, fw_X0_103, (fun s args x _ h => h)⟩
set_option maxRecDepth 100000 in
theorem mw_X0_106 : Cond.methodLink RX0 106 yX0_fitIn ∈ lw_T := lw_T_mem (List.mem_of_getElem? (i := 613) (by decide +kernel)) (by decide +kernel)
theorem ci_X0_106 : CI RX0 106 yX0_fitIn cX0_fitIn 3 (some .int) 2 := ⟨mw_X0_106, cx_X0_fitIn, cw_X0_fitIn, by decide, by decide, by decide +kernel⟩
set_option maxRecDepth 100000 in
theorem cw_X0_bears : Cond.code yX0_bears cX0_bears 5 (some .boolean) ∈ lw_T := lw_T_mem (List.mem_of_getElem? (i := 620) (by decide +kernel)) (by decide +kernel)
set_option maxRecDepth 100000 in
theorem cx_X0_bears : Cond.initialized yX0_bears.cls ∈ lw_T := lw_T_mem (List.mem_of_getElem? (i := 50) (by decide +kernel)) (by decide +kernel)
set_option maxRecDepth 100000 in
theorem ct_X0_bears : Cond.instanceMethod yX0_bears ∈ lw_T := lw_T_mem (List.mem_of_getElem? (i := 619) (by decide +kernel)) (by decide +kernel)
set_option maxRecDepth 100000 in
theorem cs_X0_bears : Cond.selects yX0_bears.cls yX0_bears yX0_bears ∈ lw_T := lw_T_mem (List.mem_of_getElem? (i := 6) (by decide +kernel)) (by decide +kernel)
set_option maxRecDepth 100000 in
theorem mw_X0_110 : Cond.methodLink RX0 110 yX0_bears ∈ lw_T := lw_T_mem (List.mem_of_getElem? (i := 617) (by decide +kernel)) (by decide +kernel)
theorem ci_X0_110 : CI RX0 110 yX0_bears cX0_bears 5 (some .boolean) 2 := ⟨mw_X0_110, cx_X0_bears, cw_X0_bears, by decide, by decide, by decide +kernel⟩
set_option maxRecDepth 100000 in
theorem cw_X0_lowestFree : Cond.code yX0_lowestFree cX0_lowestFree 5 (some .int) ∈ lw_T := lw_T_mem (List.mem_of_getElem? (i := 657) (by decide +kernel)) (by decide +kernel)
set_option maxRecDepth 100000 in
theorem cx_X0_lowestFree : Cond.initialized yX0_lowestFree.cls ∈ lw_T := lw_T_mem (List.mem_of_getElem? (i := 50) (by decide +kernel)) (by decide +kernel)
set_option maxRecDepth 100000 in
theorem ct_X0_lowestFree : Cond.instanceMethod yX0_lowestFree ∈ lw_T := lw_T_mem (List.mem_of_getElem? (i := 656) (by decide +kernel)) (by decide +kernel)
set_option maxRecDepth 100000 in
theorem cs_X0_lowestFree : Cond.selects yX0_lowestFree.cls yX0_lowestFree yX0_lowestFree ∈ lw_T := lw_T_mem (List.mem_of_getElem? (i := 9) (by decide +kernel)) (by decide +kernel)
set_option maxRecDepth 100000 in
theorem mw_X0_114 : Cond.methodLink RX0 114 yX0_lowestFree ∈ lw_T := lw_T_mem (List.mem_of_getElem? (i := 654) (by decide +kernel)) (by decide +kernel)
theorem ci_X0_114 : CI RX0 114 yX0_lowestFree cX0_lowestFree 5 (some .int) 2 := ⟨mw_X0_114, cx_X0_lowestFree, cw_X0_lowestFree, by decide, by decide, by decide +kernel⟩
set_option maxRecDepth 100000 in
theorem mw_X0_117 : Cond.methodLink RX0 117 yX0_put ∈ lw_T := lw_T_mem (List.mem_of_getElem? (i := 1015) (by decide +kernel)) (by decide +kernel)
theorem ci_X0_117 : CI RX0 117 yX0_put cX0_put 3 none 2 := ⟨mw_X0_117, cx_X0_put, cw_X0_put, by decide, by decide, by decide +kernel⟩
set_option maxRecDepth 100000 in
theorem fw_X0_121 : Cond.fieldLink RX0 121 "RackPlanner$Rack" "weightLimit" "I" ∈ lw_T := lw_T_mem (List.mem_of_getElem? (i := 732) (by decide +kernel)) (by decide +kernel)
theorem fd_X0_121_5 : FD RX0 121 5 2 := ⟨RX2, TX2, 4, "RackPlanner$Rack", rfl, in_X2, by decide, fw_X0_121, (fun s args x _ h => h)⟩
set_option maxRecDepth 100000 in
theorem mw_X0_124 : Cond.methodLink RX0 124 yX0_weightInRow ∈ lw_T := lw_T_mem (List.mem_of_getElem? (i := 623) (by decide +kernel)) (by decide +kernel)
theorem ci_X0_124 : CI RX0 124 yX0_weightInRow cX0_weightInRow 2 (some .int) 1 := ⟨mw_X0_124, cx_X0_weightInRow, cw_X0_weightInRow, by decide, by decide, by decide +kernel⟩
set_option maxRecDepth 100000 in
theorem fw_X0_127 : Cond.fieldLink RX0 127 "RackPlanner$Site" "rowWeight" "[I" ∈ lw_T := lw_T_mem (List.mem_of_getElem? (i := 123) (by decide +kernel)) (by decide +kernel)
theorem fd_X0_127_6 : FD RX0 127 6 2 := ⟨RX3, TX3, 4, "RackPlanner$Site", rfl, in_X3, by decide, fw_X0_127, (fun s args x _ h => h)⟩
set_option maxRecDepth 100000 in
theorem mw_X0_130 : Cond.methodLink RX0 130 yX0_heatInRow ∈ lw_T := lw_T_mem (List.mem_of_getElem? (i := 631) (by decide +kernel)) (by decide +kernel)
theorem ci_X0_130 : CI RX0 130 yX0_heatInRow cX0_heatInRow 2 (some .int) 1 := ⟨mw_X0_130, cx_X0_heatInRow, cw_X0_heatInRow, by decide, by decide, by decide +kernel⟩
set_option maxRecDepth 100000 in
theorem fw_X0_133 : Cond.fieldLink RX0 133 "RackPlanner$Site" "rowHeat" "[I" ∈ lw_T := lw_T_mem (List.mem_of_getElem? (i := 120) (by decide +kernel)) (by decide +kernel)
theorem fd_X0_133_6 : FD RX0 133 6 1 := ⟨RX3, TX3, 4, "RackPlanner$Site", rfl, in_X3, by decide, fw_X0_133, (fun s args x _ h => h)⟩
set_option maxRecDepth 100000 in
theorem cw_X0_bearsMore : Cond.code yX0_bearsMore cX0_bearsMore 4 (some .boolean) ∈ lw_T := lw_T_mem (List.mem_of_getElem? (i := 649) (by decide +kernel)) (by decide +kernel)
set_option maxRecDepth 100000 in
theorem cx_X0_bearsMore : Cond.initialized yX0_bearsMore.cls ∈ lw_T := lw_T_mem (List.mem_of_getElem? (i := 50) (by decide +kernel)) (by decide +kernel)
set_option maxRecDepth 100000 in
theorem ct_X0_bearsMore : Cond.instanceMethod yX0_bearsMore ∈ lw_T := lw_T_mem (List.mem_of_getElem? (i := 648) (by decide +kernel)) (by decide +kernel)
set_option maxRecDepth 100000 in
theorem cs_X0_bearsMore : Cond.selects yX0_bearsMore.cls yX0_bearsMore yX0_bearsMore ∈ lw_T := lw_T_mem (List.mem_of_getElem? (i := 8) (by decide +kernel)) (by decide +kernel)
set_option maxRecDepth 100000 in
theorem mw_X0_136 : Cond.methodLink RX0 136 yX0_bearsMore ∈ lw_T := lw_T_mem (List.mem_of_getElem? (i := 646) (by decide +kernel)) (by decide +kernel)
theorem ci_X0_136 : CI RX0 136 yX0_bearsMore cX0_bearsMore 4 (some .boolean) 3 := ⟨mw_X0_136, cx_X0_bearsMore, cw_X0_bearsMore, by decide, by decide, by decide +kernel⟩
set_option maxRecDepth 100000 in
theorem fw_X0_140 : Cond.fieldLink RX0 140 "RackPlanner$Rack" "powerLimit" "I" ∈ lw_T := lw_T_mem (List.mem_of_getElem? (i := 734) (by decide +kernel)) (by decide +kernel)
theorem fd_X0_140_5 : FD RX0 140 5 3 := ⟨RX2, TX2, 4, "RackPlanner$Rack", rfl, in_X2, by decide, fw_X0_140, (fun s args x _ h => h)⟩
set_option maxRecDepth 100000 in
theorem mw_X0_143 : Cond.methodLink RX0 143 yX0_worstOnFeed ∈ lw_T := lw_T_mem (List.mem_of_getElem? (i := 650) (by decide +kernel)) (by decide +kernel)
theorem ci_X0_143 : CI RX0 143 yX0_worstOnFeed cX0_worstOnFeed 4 (some .int) 1 := ⟨mw_X0_143, cx_X0_worstOnFeed, cw_X0_worstOnFeed, by decide, by decide, by decide +kernel⟩
set_option maxRecDepth 100000 in
theorem fw_X0_146 : Cond.fieldLink RX0 146 "RackPlanner$Site" "feedPower" "[I" ∈ lw_T := lw_T_mem (List.mem_of_getElem? (i := 126) (by decide +kernel)) (by decide +kernel)
theorem fd_X0_146_6 : FD RX0 146 6 3 := ⟨RX3, TX3, 4, "RackPlanner$Site", rfl, in_X3, by decide, fw_X0_146, (fun s args x _ h => h)⟩
set_option maxRecDepth 100000 in
theorem fw_X0_149 : Cond.fieldLink RX0 149 "RackPlanner$Rack" "slots" "I" ∈ lw_T := lw_T_mem (List.mem_of_getElem? (i := 730) (by decide +kernel)) (by decide +kernel)
theorem fd_X0_149_5 : FD RX0 149 5 1 := ⟨RX2, TX2, 4, "RackPlanner$Rack", rfl, in_X2, by decide, fw_X0_149, (fun s args x _ h => h)⟩
set_option maxRecDepth 100000 in
theorem mw_X0_150 : Cond.methodLinkNest RX0 150 yX4_cellAt "RackPlanner" ∈ lw_T := lw_T_mem (List.mem_of_getElem? (i := 658) (by decide +kernel)) (by decide +kernel)
theorem cn_X0_150 : Cond.methodLinkNest RX0 150 yX4_cellAt "RackPlanner" ∈ lw_T ∧ Cond.initialized yX4_cellAt.cls ∈ lw_T ∧ Cond.code yX4_cellAt cX4_cellAt 2 (some .int) ∈ lw_T ∧ (yX4_cellAt.cls ≠ "java/lang/invoke/MethodHandle" ∧ yX4_cellAt.cls ≠ "java/lang/invoke/VarHandle" ∧ (parseMethodDescriptor yX4_cellAt.desc).map (fun d => d.parameters.length) = some 2) := ⟨mw_X0_150, cx_X4_cellAt, cw_X4_cellAt, by decide, by decide, by decide +kernel⟩
set_option maxRecDepth 100000 in
theorem cw_J9_max_7cf53 : Cond.code yJ9_max_7cf53 cJ9_max_7cf53 2 (some .int) ∈ lw_T := lw_T_mem (List.mem_of_getElem? (i := 339) (by decide +kernel)) (by decide +kernel)
set_option maxRecDepth 100000 in
theorem cx_J9_max_7cf53 : Cond.initialized yJ9_max_7cf53.cls ∈ lw_T := lw_T_mem (List.mem_of_getElem? (i := 59) (by decide +kernel)) (by decide +kernel)
set_option maxRecDepth 100000 in
theorem ct_J9_max_7cf53 : Cond.static yJ9_max_7cf53 ∈ lw_T := lw_T_mem (List.mem_of_getElem? (i := 338) (by decide +kernel)) (by decide +kernel)
set_option maxRecDepth 100000 in
theorem mw_X0_153 : Cond.methodLink RX0 153 yJ9_max_7cf53 ∈ lw_T := lw_T_mem (List.mem_of_getElem? (i := 990) (by decide +kernel)) (by decide +kernel)
theorem ci_X0_153 : CI RX0 153 yJ9_max_7cf53 cJ9_max_7cf53 2 (some .int) 2 := ⟨mw_X0_153, cx_J9_max_7cf53, cw_J9_max_7cf53, by decide, by decide, by decide +kernel⟩
set_option maxRecDepth 100000 in
theorem cw_X0_countForRack : Cond.code yX0_countForRack cX0_countForRack 6 (some .int) ∈ lw_T := lw_T_mem (List.mem_of_getElem? (i := 1030) (by decide +kernel)) (by decide +kernel)
set_option maxRecDepth 100000 in
theorem cx_X0_countForRack : Cond.initialized yX0_countForRack.cls ∈ lw_T := lw_T_mem (List.mem_of_getElem? (i := 50) (by decide +kernel)) (by decide +kernel)
set_option maxRecDepth 100000 in
theorem ct_X0_countForRack : Cond.instanceMethod yX0_countForRack ∈ lw_T := lw_T_mem (List.mem_of_getElem? (i := 1029) (by decide +kernel)) (by decide +kernel)
set_option maxRecDepth 100000 in
theorem cs_X0_countForRack : Cond.selects yX0_countForRack.cls yX0_countForRack yX0_countForRack ∈ lw_T := lw_T_mem (List.mem_of_getElem? (i := 23) (by decide +kernel)) (by decide +kernel)
set_option maxRecDepth 100000 in
theorem mw_X0_158 : Cond.methodLink RX0 158 yX0_countForRack ∈ lw_T := lw_T_mem (List.mem_of_getElem? (i := 1027) (by decide +kernel)) (by decide +kernel)
theorem ci_X0_158 : CI RX0 158 yX0_countForRack cX0_countForRack 6 (some .int) 2 := ⟨mw_X0_158, cx_X0_countForRack, cw_X0_countForRack, by decide, by decide, by decide +kernel⟩
set_option maxRecDepth 100000 in
theorem mw_X0_161 : Cond.methodLinkNest RX0 161 yX4_atMost "RackPlanner" ∈ lw_T := lw_T_mem (List.mem_of_getElem? (i := 1035) (by decide +kernel)) (by decide +kernel)
theorem cn_X0_161 : Cond.methodLinkNest RX0 161 yX4_atMost "RackPlanner" ∈ lw_T ∧ Cond.initialized yX4_atMost.cls ∈ lw_T ∧ Cond.code yX4_atMost cX4_atMost 3 (some .int) ∈ lw_T ∧ (yX4_atMost.cls ≠ "java/lang/invoke/MethodHandle" ∧ yX4_atMost.cls ≠ "java/lang/invoke/VarHandle" ∧ (parseMethodDescriptor yX4_atMost.desc).map (fun d => d.parameters.length) = some 3) := ⟨mw_X0_161, cx_X4_atMost, cw_X4_atMost, by decide, by decide, by decide +kernel⟩
set_option maxRecDepth 100000 in
theorem cw_X0_countBySlots : Cond.code yX0_countBySlots cX0_countBySlots 6 (some .int) ∈ lw_T := lw_T_mem (List.mem_of_getElem? (i := 1034) (by decide +kernel)) (by decide +kernel)
set_option maxRecDepth 100000 in
theorem cx_X0_countBySlots : Cond.initialized yX0_countBySlots.cls ∈ lw_T := lw_T_mem (List.mem_of_getElem? (i := 50) (by decide +kernel)) (by decide +kernel)
set_option maxRecDepth 100000 in
theorem ct_X0_countBySlots : Cond.instanceMethod yX0_countBySlots ∈ lw_T := lw_T_mem (List.mem_of_getElem? (i := 1033) (by decide +kernel)) (by decide +kernel)
set_option maxRecDepth 100000 in
theorem cs_X0_countBySlots : Cond.selects yX0_countBySlots.cls yX0_countBySlots yX0_countBySlots ∈ lw_T := lw_T_mem (List.mem_of_getElem? (i := 24) (by decide +kernel)) (by decide +kernel)
set_option maxRecDepth 100000 in
theorem mw_X0_165 : Cond.methodLink RX0 165 yX0_countBySlots ∈ lw_T := lw_T_mem (List.mem_of_getElem? (i := 1031) (by decide +kernel)) (by decide +kernel)
theorem ci_X0_165 : CI RX0 165 yX0_countBySlots cX0_countBySlots 6 (some .int) 2 := ⟨mw_X0_165, cx_X0_countBySlots, cw_X0_countBySlots, by decide, by decide, by decide +kernel⟩
set_option maxRecDepth 100000 in
theorem tw_m_X1_3 : Cond.methodLink RX1 3 objectInit ∈ lw_T := lw_T_mem (List.mem_of_getElem? (i := 811) (by decide +kernel)) (by decide +kernel)
set_option maxRecDepth 100000 in
theorem fw_X1_9 : Cond.fieldLink RX1 9 "RackPlanner$Machine" "number" "I" ∈ lw_T := lw_T_mem (List.mem_of_getElem? (i := 812) (by decide +kernel)) (by decide +kernel)
theorem fd_X1_9_4 : FD RX1 9 4 0 := ⟨RX1, TX1, 7, "RackPlanner$Machine", rfl, in_X1, by decide, fw_X1_9, (fun s args x _ h => h)⟩
theorem fp_X1_9_4 : FP RX1 9 4 0 .int true := ⟨RX1, TX1, 7, "RackPlanner$Machine", tyX1, ⟨rfl, in_X1, by decide, fw_X1_9, (fun s args x _ h => h)⟩, tyX1_ok, nmX1, by decide +kernel, rfl, fun _ => rfl⟩
set_option maxRecDepth 100000 in
theorem fw_X1_15 : Cond.fieldLink RX1 15 "RackPlanner$Machine" "slots" "I" ∈ lw_T := lw_T_mem (List.mem_of_getElem? (i := 815) (by decide +kernel)) (by decide +kernel)
theorem fd_X1_15_4 : FD RX1 15 4 1 := ⟨RX1, TX1, 7, "RackPlanner$Machine", rfl, in_X1, by decide, fw_X1_15, (fun s args x _ h => h)⟩
theorem fp_X1_15_4 : FP RX1 15 4 1 .int true := ⟨RX1, TX1, 7, "RackPlanner$Machine", tyX1, ⟨rfl, in_X1, by decide, fw_X1_15, (fun s args x _ h => h)⟩, tyX1_ok, nmX1, by decide +kernel, rfl, fun _ => rfl⟩
set_option maxRecDepth 100000 in
theorem fw_X1_18 : Cond.fieldLink RX1 18 "RackPlanner$Machine" "power" "I" ∈ lw_T := lw_T_mem (List.mem_of_getElem? (i := 818) (by decide +kernel)) (by decide +kernel)
theorem fd_X1_18_4 : FD RX1 18 4 2 := ⟨RX1, TX1, 7, "RackPlanner$Machine", rfl, in_X1, by decide, fw_X1_18, (fun s args x _ h => h)⟩
theorem fp_X1_18_4 : FP RX1 18 4 2 .int true := ⟨RX1, TX1, 7, "RackPlanner$Machine", tyX1, ⟨rfl, in_X1, by decide, fw_X1_18, (fun s args x _ h => h)⟩, tyX1_ok, nmX1, by decide +kernel, rfl, fun _ => rfl⟩
set_option maxRecDepth 100000 in
theorem fw_X1_21 : Cond.fieldLink RX1 21 "RackPlanner$Machine" "weight" "I" ∈ lw_T := lw_T_mem (List.mem_of_getElem? (i := 821) (by decide +kernel)) (by decide +kernel)
theorem fd_X1_21_4 : FD RX1 21 4 3 := ⟨RX1, TX1, 7, "RackPlanner$Machine", rfl, in_X1, by decide, fw_X1_21, (fun s args x _ h => h)⟩
theorem fp_X1_21_4 : FP RX1 21 4 3 .int true := ⟨RX1, TX1, 7, "RackPlanner$Machine", tyX1, ⟨rfl, in_X1, by decide, fw_X1_21, (fun s args x _ h => h)⟩, tyX1_ok, nmX1, by decide +kernel, rfl, fun _ => rfl⟩
set_option maxRecDepth 100000 in
theorem fw_X1_24 : Cond.fieldLink RX1 24 "RackPlanner$Machine" "cords" "I" ∈ lw_T := lw_T_mem (List.mem_of_getElem? (i := 823) (by decide +kernel)) (by decide +kernel)
theorem fd_X1_24_4 : FD RX1 24 4 4 := ⟨RX1, TX1, 7, "RackPlanner$Machine", rfl, in_X1, by decide, fw_X1_24, (fun s args x _ h => h)⟩
theorem fp_X1_24_4 : FP RX1 24 4 4 .int false := ⟨RX1, TX1, 7, "RackPlanner$Machine", tyX1, ⟨rfl, in_X1, by decide, fw_X1_24, (fun s args x _ h => h)⟩, tyX1_ok, nmX1, by decide +kernel, rfl, fun h => by cases h⟩
set_option maxRecDepth 100000 in
theorem fw_X1_27 : Cond.fieldLink RX1 27 "RackPlanner$Machine" "cell" "I" ∈ lw_T := lw_T_mem (List.mem_of_getElem? (i := 826) (by decide +kernel)) (by decide +kernel)
theorem fd_X1_27_4 : FD RX1 27 4 5 := ⟨RX1, TX1, 7, "RackPlanner$Machine", rfl, in_X1, by decide, fw_X1_27, (fun s args x _ h => h)⟩
theorem fp_X1_27_4 : FP RX1 27 4 5 .int false := ⟨RX1, TX1, 7, "RackPlanner$Machine", tyX1, ⟨rfl, in_X1, by decide, fw_X1_27, (fun s args x _ h => h)⟩, tyX1_ok, nmX1, by decide +kernel, rfl, fun h => by cases h⟩
set_option maxRecDepth 100000 in
theorem fw_X1_30 : Cond.fieldLink RX1 30 "RackPlanner$Machine" "packedCell" "I" ∈ lw_T := lw_T_mem (List.mem_of_getElem? (i := 829) (by decide +kernel)) (by decide +kernel)
theorem fd_X1_30_4 : FD RX1 30 4 6 := ⟨RX1, TX1, 7, "RackPlanner$Machine", rfl, in_X1, by decide, fw_X1_30, (fun s args x _ h => h)⟩
theorem fp_X1_30_4 : FP RX1 30 4 6 .int false := ⟨RX1, TX1, 7, "RackPlanner$Machine", tyX1, ⟨rfl, in_X1, by decide, fw_X1_30, (fun s args x _ h => h)⟩, tyX1_ok, nmX1, by decide +kernel, rfl, fun h => by cases h⟩
set_option maxRecDepth 100000 in
theorem cw_X1_leadTo : Cond.code yX1_leadTo cX1_leadTo 2 (some .boolean) ∈ lw_T := lw_T_mem (List.mem_of_getElem? (i := 645) (by decide +kernel)) (by decide +kernel)
set_option maxRecDepth 100000 in
theorem cx_X1_leadTo : Cond.initialized yX1_leadTo.cls ∈ lw_T := lw_T_mem (List.mem_of_getElem? (i := 63) (by decide +kernel)) (by decide +kernel)
set_option maxRecDepth 100000 in
theorem ct_X1_leadTo : Cond.static yX1_leadTo ∈ lw_T := lw_T_mem (List.mem_of_getElem? (i := 644) (by decide +kernel)) (by decide +kernel)
set_option maxRecDepth 100000 in
theorem mw_X1_33 : Cond.methodLink RX1 33 yX1_leadTo ∈ lw_T := lw_T_mem (List.mem_of_getElem? (i := 643) (by decide +kernel)) (by decide +kernel)
theorem ci_X1_33 : CI RX1 33 yX1_leadTo cX1_leadTo 2 (some .boolean) 2 := ⟨mw_X1_33, cx_X1_leadTo, cw_X1_leadTo, by decide, by decide, by decide +kernel⟩
set_option maxRecDepth 100000 in
theorem mw_X1_37 : Cond.methodLink RX1 37 yX1_worstWith ∈ lw_T := lw_T_mem (List.mem_of_getElem? (i := 639) (by decide +kernel)) (by decide +kernel)
theorem ci_X1_37 : CI RX1 37 yX1_worstWith cX1_worstWith 3 (some .int) 2 := ⟨mw_X1_37, cx_X1_worstWith, cw_X1_worstWith, by decide, by decide, by decide +kernel⟩
set_option maxRecDepth 100000 in
theorem tw_m_X2_1 : Cond.methodLink RX2 1 objectInit ∈ lw_T := lw_T_mem (List.mem_of_getElem? (i := 724) (by decide +kernel)) (by decide +kernel)
set_option maxRecDepth 100000 in
theorem fw_X2_7 : Cond.fieldLink RX2 7 "RackPlanner$Rack" "row" "I" ∈ lw_T := lw_T_mem (List.mem_of_getElem? (i := 725) (by decide +kernel)) (by decide +kernel)
theorem fd_X2_7_5 : FD RX2 7 5 0 := ⟨RX2, TX2, 4, "RackPlanner$Rack", rfl, in_X2, by decide, fw_X2_7, (fun s args x _ h => h)⟩
theorem fp_X2_7_5 : FP RX2 7 5 0 .int true := ⟨RX2, TX2, 4, "RackPlanner$Rack", tyX2, ⟨rfl, in_X2, by decide, fw_X2_7, (fun s args x _ h => h)⟩, tyX2_ok, nmX2, by decide +kernel, rfl, fun _ => rfl⟩
set_option maxRecDepth 100000 in
theorem fw_X2_13 : Cond.fieldLink RX2 13 "RackPlanner$Rack" "slots" "I" ∈ lw_T := lw_T_mem (List.mem_of_getElem? (i := 728) (by decide +kernel)) (by decide +kernel)
theorem fd_X2_13_5 : FD RX2 13 5 1 := ⟨RX2, TX2, 4, "RackPlanner$Rack", rfl, in_X2, by decide, fw_X2_13, (fun s args x _ h => h)⟩
theorem fp_X2_13_5 : FP RX2 13 5 1 .int true := ⟨RX2, TX2, 4, "RackPlanner$Rack", tyX2, ⟨rfl, in_X2, by decide, fw_X2_13, (fun s args x _ h => h)⟩, tyX2_ok, nmX2, by decide +kernel, rfl, fun _ => rfl⟩
set_option maxRecDepth 100000 in
theorem fw_X2_16 : Cond.fieldLink RX2 16 "RackPlanner$Rack" "weightLimit" "I" ∈ lw_T := lw_T_mem (List.mem_of_getElem? (i := 731) (by decide +kernel)) (by decide +kernel)
theorem fd_X2_16_5 : FD RX2 16 5 2 := ⟨RX2, TX2, 4, "RackPlanner$Rack", rfl, in_X2, by decide, fw_X2_16, (fun s args x _ h => h)⟩
theorem fp_X2_16_5 : FP RX2 16 5 2 .int true := ⟨RX2, TX2, 4, "RackPlanner$Rack", tyX2, ⟨rfl, in_X2, by decide, fw_X2_16, (fun s args x _ h => h)⟩, tyX2_ok, nmX2, by decide +kernel, rfl, fun _ => rfl⟩
set_option maxRecDepth 100000 in
theorem fw_X2_19 : Cond.fieldLink RX2 19 "RackPlanner$Rack" "powerLimit" "I" ∈ lw_T := lw_T_mem (List.mem_of_getElem? (i := 733) (by decide +kernel)) (by decide +kernel)
theorem fd_X2_19_5 : FD RX2 19 5 3 := ⟨RX2, TX2, 4, "RackPlanner$Rack", rfl, in_X2, by decide, fw_X2_19, (fun s args x _ h => h)⟩
theorem fp_X2_19_5 : FP RX2 19 5 3 .int true := ⟨RX2, TX2, 4, "RackPlanner$Rack", tyX2, ⟨rfl, in_X2, by decide, fw_X2_19, (fun s args x _ h => h)⟩, tyX2_ok, nmX2, by decide +kernel, rfl, fun _ => rfl⟩
set_option maxRecDepth 100000 in
theorem tw_m_X3_3 : Cond.methodLink RX3 3 objectInit ∈ lw_T := lw_T_mem (List.mem_of_getElem? (i := 85) (by decide +kernel)) (by decide +kernel)
set_option maxRecDepth 100000 in
theorem tk_X3_9 : Cond.classLink RX3 9 "java/util/ArrayList" ∈ lw_T := lw_T_mem (List.mem_of_getElem? (i := 86) (by decide +kernel)) (by decide +kernel)
set_option maxRecDepth 100000 in
theorem iw_X3_9 : Cond.instantiable RJx4a65c 3 ∈ lw_T := lw_T_mem (List.mem_of_getElem? (i := 87) (by decide +kernel)) (by decide +kernel)
set_option maxRecDepth 100000 in
theorem ix_X3_9 : Cond.initialized RJx4a65c ∈ lw_T := lw_T_mem (List.mem_of_getElem? (i := 48) (by decide +kernel)) (by decide +kernel)
theorem fn_X3_9 : FN RX3 9 2 3 [.int 0, .null, .int 0] := ⟨RJx4a65c, TJx4a65c, tyJx4a65c, rfl, in_Jx4a65c, tyJx4a65c_ok, tk_X3_9, iw_X3_9, ix_X3_9, by intro j hj; rcases (show j = 0 ∨ j = 1 ∨ j = 2 by omega) with rfl | rfl | rfl <;> rfl⟩
set_option maxRecDepth 100000 in
theorem mw_X3_11 : Cond.methodLink RX3 11 yJx4a65c_init_da8c8 ∈ lw_T := lw_T_mem (List.mem_of_getElem? (i := 88) (by decide +kernel)) (by decide +kernel)
theorem ci_X3_11 : CI RX3 11 yJx4a65c_init_da8c8 cJx4a65c_init_da8c8 1 none 0 := ⟨mw_X3_11, cx_Jx4a65c_init_da8c8, cw_Jx4a65c_init_da8c8, by decide, by decide, by decide +kernel⟩
set_option maxRecDepth 100000 in
theorem fw_X3_12 : Cond.fieldLink RX3 12 "RackPlanner$Site" "racks" "Ljava/util/ArrayList;" ∈ lw_T := lw_T_mem (List.mem_of_getElem? (i := 115) (by decide +kernel)) (by decide +kernel)
theorem fd_X3_12_6 : FD RX3 12 6 0 := ⟨RX3, TX3, 4, "RackPlanner$Site", rfl, in_X3, by decide, fw_X3_12, (fun s args x _ h => h)⟩
theorem fp_X3_12_6 : FP RX3 12 6 0 (.object "java/util/ArrayList") true := ⟨RX3, TX3, 4, "RackPlanner$Site", tyX3, ⟨rfl, in_X3, by decide, fw_X3_12, (fun s args x _ h => h)⟩, tyX3_ok, nmX3, by decide +kernel, rfl, fun _ => rfl⟩
set_option maxRecDepth 100000 in
theorem fw_X3_18 : Cond.fieldLink RX3 18 "RackPlanner$Site" "rowHeat" "[I" ∈ lw_T := lw_T_mem (List.mem_of_getElem? (i := 118) (by decide +kernel)) (by decide +kernel)
theorem fd_X3_18_6 : FD RX3 18 6 1 := ⟨RX3, TX3, 4, "RackPlanner$Site", rfl, in_X3, by decide, fw_X3_18, (fun s args x _ h => h)⟩
theorem fp_X3_18_6 : FP RX3 18 6 1 (.array .int) true := ⟨RX3, TX3, 4, "RackPlanner$Site", tyX3, ⟨rfl, in_X3, by decide, fw_X3_18, (fun s args x _ h => h)⟩, tyX3_ok, nmX3, by decide +kernel, rfl, fun _ => rfl⟩
set_option maxRecDepth 100000 in
theorem fw_X3_22 : Cond.fieldLink RX3 22 "RackPlanner$Site" "rowWeight" "[I" ∈ lw_T := lw_T_mem (List.mem_of_getElem? (i := 121) (by decide +kernel)) (by decide +kernel)
theorem fd_X3_22_6 : FD RX3 22 6 2 := ⟨RX3, TX3, 4, "RackPlanner$Site", rfl, in_X3, by decide, fw_X3_22, (fun s args x _ h => h)⟩
theorem fp_X3_22_6 : FP RX3 22 6 2 (.array .int) true := ⟨RX3, TX3, 4, "RackPlanner$Site", tyX3, ⟨rfl, in_X3, by decide, fw_X3_22, (fun s args x _ h => h)⟩, tyX3_ok, nmX3, by decide +kernel, rfl, fun _ => rfl⟩
set_option maxRecDepth 100000 in
theorem fw_X3_25 : Cond.fieldLink RX3 25 "RackPlanner$Site" "feedPower" "[I" ∈ lw_T := lw_T_mem (List.mem_of_getElem? (i := 124) (by decide +kernel)) (by decide +kernel)
theorem fd_X3_25_6 : FD RX3 25 6 3 := ⟨RX3, TX3, 4, "RackPlanner$Site", rfl, in_X3, by decide, fw_X3_25, (fun s args x _ h => h)⟩
theorem fp_X3_25_6 : FP RX3 25 6 3 (.array .int) true := ⟨RX3, TX3, 4, "RackPlanner$Site", tyX3, ⟨rfl, in_X3, by decide, fw_X3_25, (fun s args x _ h => h)⟩, tyX3_ok, nmX3, by decide +kernel, rfl, fun _ => rfl⟩
set_option maxRecDepth 100000 in
theorem mw_X3_28 : Cond.methodLink RX3 28 yJ7_fill_53178 ∈ lw_T := lw_T_mem (List.mem_of_getElem? (i := 112) (by decide +kernel)) (by decide +kernel)
theorem ci_X3_28 : CI RX3 28 yJ7_fill_53178 cJ7_fill_53178 4 none 2 := ⟨mw_X3_28, cx_J7_fill_53178, cw_J7_fill_53178, by decide, by decide, by decide +kernel⟩
set_option maxRecDepth 100000 in
theorem cw_X4_addRack : Cond.code yX4_addRack cX4_addRack 6 (some .int) ∈ lw_T := lw_T_mem (List.mem_of_getElem? (i := 696) (by decide +kernel)) (by decide +kernel)
set_option maxRecDepth 100000 in
theorem cx_X4_addRack : Cond.initialized yX4_addRack.cls ∈ lw_T := lw_T_mem (List.mem_of_getElem? (i := 44) (by decide +kernel)) (by decide +kernel)
set_option maxRecDepth 100000 in
theorem ct_X4_addRack : Cond.instanceMethod yX4_addRack ∈ lw_T := lw_T_mem (List.mem_of_getElem? (i := 694) (by decide +kernel)) (by decide +kernel)
set_option maxRecDepth 100000 in
theorem cs_X4_addRack : Cond.selects yX4_addRack.cls yX4_addRack yX4_addRack ∈ lw_T := lw_T_mem (List.mem_of_getElem? (i := 695) (by decide +kernel)) (by decide +kernel)
set_option maxRecDepth 100000 in
theorem mw_L_7 : Cond.methodLink RL 7 yX4_addRack ∈ lw_T := lw_T_mem (List.mem_of_getElem? (i := 693) (by decide +kernel)) (by decide +kernel)
theorem ci_L_7 : CI RL 7 yX4_addRack cX4_addRack 6 (some .int) 4 := ⟨mw_L_7, cx_X4_addRack, cw_X4_addRack, by decide, by decide, by decide +kernel⟩
set_option maxRecDepth 100000 in
theorem tk_L_8 : Cond.classLink RL 8 "RackPlanner" ∈ lw_T := lw_T_mem (List.mem_of_getElem? (i := 72) (by decide +kernel)) (by decide +kernel)
set_option maxRecDepth 100000 in
theorem iw_L_8 : Cond.instantiable RX4 7 ∈ lw_T := lw_T_mem (List.mem_of_getElem? (i := 73) (by decide +kernel)) (by decide +kernel)
set_option maxRecDepth 100000 in
theorem ix_L_8 : Cond.initialized RX4 ∈ lw_T := lw_T_mem (List.mem_of_getElem? (i := 44) (by decide +kernel)) (by decide +kernel)
theorem fn_L_8 : FN RL 8 7 7 [.null, .null, .null, .null, .null, .null, .int 0] := ⟨RX4, TX4, tyX4, rfl, in_X4, tyX4_ok, tk_L_8, iw_L_8, ix_L_8, by intro j hj; rcases (show j = 0 ∨ j = 1 ∨ j = 2 ∨ j = 3 ∨ j = 4 ∨ j = 5 ∨ j = 6 by omega) with rfl | rfl | rfl | rfl | rfl | rfl | rfl <;> rfl⟩
set_option maxRecDepth 100000 in
theorem tk_L_13 : Cond.classLink RL 13 "java/lang/IllegalArgumentException" ∈ lw_T := lw_T_mem (List.mem_of_getElem? (i := 691) (by decide +kernel)) (by decide +kernel)
set_option maxRecDepth 100000 in
theorem tk_L_15 : Cond.classLink RL 15 "java/lang/IllegalStateException" ∈ lw_T := lw_T_mem (List.mem_of_getElem? (i := 692) (by decide +kernel)) (by decide +kernel)
set_option maxRecDepth 100000 in
theorem cw_X4_setRow : Cond.code yX4_setRow cX4_setRow 4 none ∈ lw_T := lw_T_mem (List.mem_of_getElem? (i := 758) (by decide +kernel)) (by decide +kernel)
set_option maxRecDepth 100000 in
theorem cx_X4_setRow : Cond.initialized yX4_setRow.cls ∈ lw_T := lw_T_mem (List.mem_of_getElem? (i := 44) (by decide +kernel)) (by decide +kernel)
set_option maxRecDepth 100000 in
theorem ct_X4_setRow : Cond.instanceMethod yX4_setRow ∈ lw_T := lw_T_mem (List.mem_of_getElem? (i := 756) (by decide +kernel)) (by decide +kernel)
set_option maxRecDepth 100000 in
theorem cs_X4_setRow : Cond.selects yX4_setRow.cls yX4_setRow yX4_setRow ∈ lw_T := lw_T_mem (List.mem_of_getElem? (i := 757) (by decide +kernel)) (by decide +kernel)
set_option maxRecDepth 100000 in
theorem mw_L_17 : Cond.methodLink RL 17 yX4_setRow ∈ lw_T := lw_T_mem (List.mem_of_getElem? (i := 755) (by decide +kernel)) (by decide +kernel)
theorem ci_L_17 : CI RL 17 yX4_setRow cX4_setRow 4 none 3 := ⟨mw_L_17, cx_X4_setRow, cw_X4_setRow, by decide, by decide, by decide +kernel⟩
set_option maxRecDepth 100000 in
theorem cw_X4_setFeed : Cond.code yX4_setFeed cX4_setFeed 4 (some .int) ∈ lw_T := lw_T_mem (List.mem_of_getElem? (i := 768) (by decide +kernel)) (by decide +kernel)
set_option maxRecDepth 100000 in
theorem cx_X4_setFeed : Cond.initialized yX4_setFeed.cls ∈ lw_T := lw_T_mem (List.mem_of_getElem? (i := 44) (by decide +kernel)) (by decide +kernel)
set_option maxRecDepth 100000 in
theorem ct_X4_setFeed : Cond.instanceMethod yX4_setFeed ∈ lw_T := lw_T_mem (List.mem_of_getElem? (i := 766) (by decide +kernel)) (by decide +kernel)
set_option maxRecDepth 100000 in
theorem cs_X4_setFeed : Cond.selects yX4_setFeed.cls yX4_setFeed yX4_setFeed ∈ lw_T := lw_T_mem (List.mem_of_getElem? (i := 767) (by decide +kernel)) (by decide +kernel)
set_option maxRecDepth 100000 in
theorem mw_L_21 : Cond.methodLink RL 21 yX4_setFeed ∈ lw_T := lw_T_mem (List.mem_of_getElem? (i := 765) (by decide +kernel)) (by decide +kernel)
theorem ci_L_21 : CI RL 21 yX4_setFeed cX4_setFeed 4 (some .int) 2 := ⟨mw_L_21, cx_X4_setFeed, cw_X4_setFeed, by decide, by decide, by decide +kernel⟩
set_option maxRecDepth 100000 in
theorem cw_X4_switchFeed : Cond.code yX4_switchFeed cX4_switchFeed 4 (some .int) ∈ lw_T := lw_T_mem (List.mem_of_getElem? (i := 780) (by decide +kernel)) (by decide +kernel)
set_option maxRecDepth 100000 in
theorem cx_X4_switchFeed : Cond.initialized yX4_switchFeed.cls ∈ lw_T := lw_T_mem (List.mem_of_getElem? (i := 44) (by decide +kernel)) (by decide +kernel)
set_option maxRecDepth 100000 in
theorem ct_X4_switchFeed : Cond.instanceMethod yX4_switchFeed ∈ lw_T := lw_T_mem (List.mem_of_getElem? (i := 778) (by decide +kernel)) (by decide +kernel)
set_option maxRecDepth 100000 in
theorem cs_X4_switchFeed : Cond.selects yX4_switchFeed.cls yX4_switchFeed yX4_switchFeed ∈ lw_T := lw_T_mem (List.mem_of_getElem? (i := 779) (by decide +kernel)) (by decide +kernel)
set_option maxRecDepth 100000 in
theorem mw_L_25 : Cond.methodLink RL 25 yX4_switchFeed ∈ lw_T := lw_T_mem (List.mem_of_getElem? (i := 777) (by decide +kernel)) (by decide +kernel)
theorem ci_L_25 : CI RL 25 yX4_switchFeed cX4_switchFeed 4 (some .int) 1 := ⟨mw_L_25, cx_X4_switchFeed, cw_X4_switchFeed, by decide, by decide, by decide +kernel⟩
set_option maxRecDepth 100000 in
theorem cw_X4_hasFailed : Cond.code yX4_hasFailed cX4_hasFailed 2 (some .boolean) ∈ lw_T := lw_T_mem (List.mem_of_getElem? (i := 795) (by decide +kernel)) (by decide +kernel)
set_option maxRecDepth 100000 in
theorem cx_X4_hasFailed : Cond.initialized yX4_hasFailed.cls ∈ lw_T := lw_T_mem (List.mem_of_getElem? (i := 44) (by decide +kernel)) (by decide +kernel)
set_option maxRecDepth 100000 in
theorem ct_X4_hasFailed : Cond.instanceMethod yX4_hasFailed ∈ lw_T := lw_T_mem (List.mem_of_getElem? (i := 793) (by decide +kernel)) (by decide +kernel)
set_option maxRecDepth 100000 in
theorem cs_X4_hasFailed : Cond.selects yX4_hasFailed.cls yX4_hasFailed yX4_hasFailed ∈ lw_T := lw_T_mem (List.mem_of_getElem? (i := 794) (by decide +kernel)) (by decide +kernel)
set_option maxRecDepth 100000 in
theorem mw_L_29 : Cond.methodLink RL 29 yX4_hasFailed ∈ lw_T := lw_T_mem (List.mem_of_getElem? (i := 792) (by decide +kernel)) (by decide +kernel)
theorem ci_L_29 : CI RL 29 yX4_hasFailed cX4_hasFailed 2 (some .boolean) 1 := ⟨mw_L_29, cx_X4_hasFailed, cw_X4_hasFailed, by decide, by decide, by decide +kernel⟩
set_option maxRecDepth 100000 in
theorem cw_X4_place : Cond.code yX4_place cX4_place 7 (some .int) ∈ lw_T := lw_T_mem (List.mem_of_getElem? (i := 802) (by decide +kernel)) (by decide +kernel)
set_option maxRecDepth 100000 in
theorem cx_X4_place : Cond.initialized yX4_place.cls ∈ lw_T := lw_T_mem (List.mem_of_getElem? (i := 44) (by decide +kernel)) (by decide +kernel)
set_option maxRecDepth 100000 in
theorem ct_X4_place : Cond.instanceMethod yX4_place ∈ lw_T := lw_T_mem (List.mem_of_getElem? (i := 800) (by decide +kernel)) (by decide +kernel)
set_option maxRecDepth 100000 in
theorem cs_X4_place : Cond.selects yX4_place.cls yX4_place yX4_place ∈ lw_T := lw_T_mem (List.mem_of_getElem? (i := 801) (by decide +kernel)) (by decide +kernel)
set_option maxRecDepth 100000 in
theorem mw_L_33 : Cond.methodLink RL 33 yX4_place ∈ lw_T := lw_T_mem (List.mem_of_getElem? (i := 799) (by decide +kernel)) (by decide +kernel)
theorem ci_L_33 : CI RL 33 yX4_place cX4_place 7 (some .int) 4 := ⟨mw_L_33, cx_X4_place, cw_X4_place, by decide, by decide, by decide +kernel⟩
set_option maxRecDepth 100000 in
theorem cw_X4_takeOut : Cond.code yX4_takeOut cX4_takeOut 4 (some .int) ∈ lw_T := lw_T_mem (List.mem_of_getElem? (i := 855) (by decide +kernel)) (by decide +kernel)
set_option maxRecDepth 100000 in
theorem cx_X4_takeOut : Cond.initialized yX4_takeOut.cls ∈ lw_T := lw_T_mem (List.mem_of_getElem? (i := 44) (by decide +kernel)) (by decide +kernel)
set_option maxRecDepth 100000 in
theorem ct_X4_takeOut : Cond.instanceMethod yX4_takeOut ∈ lw_T := lw_T_mem (List.mem_of_getElem? (i := 853) (by decide +kernel)) (by decide +kernel)
set_option maxRecDepth 100000 in
theorem cs_X4_takeOut : Cond.selects yX4_takeOut.cls yX4_takeOut yX4_takeOut ∈ lw_T := lw_T_mem (List.mem_of_getElem? (i := 854) (by decide +kernel)) (by decide +kernel)
set_option maxRecDepth 100000 in
theorem mw_L_36 : Cond.methodLink RL 36 yX4_takeOut ∈ lw_T := lw_T_mem (List.mem_of_getElem? (i := 852) (by decide +kernel)) (by decide +kernel)
theorem ci_L_36 : CI RL 36 yX4_takeOut cX4_takeOut 4 (some .int) 1 := ⟨mw_L_36, cx_X4_takeOut, cw_X4_takeOut, by decide, by decide, by decide +kernel⟩
set_option maxRecDepth 100000 in
theorem tk_L_39 : Cond.classLink RL 39 "java/lang/IndexOutOfBoundsException" ∈ lw_T := lw_T_mem (List.mem_of_getElem? (i := 851) (by decide +kernel)) (by decide +kernel)
set_option maxRecDepth 100000 in
theorem cw_X4_cord : Cond.code yX4_cord cX4_cord 5 (some .int) ∈ lw_T := lw_T_mem (List.mem_of_getElem? (i := 882) (by decide +kernel)) (by decide +kernel)
set_option maxRecDepth 100000 in
theorem cx_X4_cord : Cond.initialized yX4_cord.cls ∈ lw_T := lw_T_mem (List.mem_of_getElem? (i := 44) (by decide +kernel)) (by decide +kernel)
set_option maxRecDepth 100000 in
theorem ct_X4_cord : Cond.instanceMethod yX4_cord ∈ lw_T := lw_T_mem (List.mem_of_getElem? (i := 880) (by decide +kernel)) (by decide +kernel)
set_option maxRecDepth 100000 in
theorem cs_X4_cord : Cond.selects yX4_cord.cls yX4_cord yX4_cord ∈ lw_T := lw_T_mem (List.mem_of_getElem? (i := 881) (by decide +kernel)) (by decide +kernel)
set_option maxRecDepth 100000 in
theorem mw_L_41 : Cond.methodLink RL 41 yX4_cord ∈ lw_T := lw_T_mem (List.mem_of_getElem? (i := 879) (by decide +kernel)) (by decide +kernel)
theorem ci_L_41 : CI RL 41 yX4_cord cX4_cord 5 (some .int) 2 := ⟨mw_L_41, cx_X4_cord, cw_X4_cord, by decide, by decide, by decide +kernel⟩
set_option maxRecDepth 100000 in
theorem cw_X4_rackOf : Cond.code yX4_rackOf cX4_rackOf 2 (some .int) ∈ lw_T := lw_T_mem (List.mem_of_getElem? (i := 903) (by decide +kernel)) (by decide +kernel)
set_option maxRecDepth 100000 in
theorem cx_X4_rackOf : Cond.initialized yX4_rackOf.cls ∈ lw_T := lw_T_mem (List.mem_of_getElem? (i := 44) (by decide +kernel)) (by decide +kernel)
set_option maxRecDepth 100000 in
theorem ct_X4_rackOf : Cond.instanceMethod yX4_rackOf ∈ lw_T := lw_T_mem (List.mem_of_getElem? (i := 901) (by decide +kernel)) (by decide +kernel)
set_option maxRecDepth 100000 in
theorem cs_X4_rackOf : Cond.selects yX4_rackOf.cls yX4_rackOf yX4_rackOf ∈ lw_T := lw_T_mem (List.mem_of_getElem? (i := 902) (by decide +kernel)) (by decide +kernel)
set_option maxRecDepth 100000 in
theorem mw_L_44 : Cond.methodLink RL 44 yX4_rackOf ∈ lw_T := lw_T_mem (List.mem_of_getElem? (i := 900) (by decide +kernel)) (by decide +kernel)
theorem ci_L_44 : CI RL 44 yX4_rackOf cX4_rackOf 2 (some .int) 1 := ⟨mw_L_44, cx_X4_rackOf, cw_X4_rackOf, by decide, by decide, by decide +kernel⟩
set_option maxRecDepth 100000 in
theorem cw_X4_slotOf : Cond.code yX4_slotOf cX4_slotOf 2 (some .int) ∈ lw_T := lw_T_mem (List.mem_of_getElem? (i := 910) (by decide +kernel)) (by decide +kernel)
set_option maxRecDepth 100000 in
theorem cx_X4_slotOf : Cond.initialized yX4_slotOf.cls ∈ lw_T := lw_T_mem (List.mem_of_getElem? (i := 44) (by decide +kernel)) (by decide +kernel)
set_option maxRecDepth 100000 in
theorem ct_X4_slotOf : Cond.instanceMethod yX4_slotOf ∈ lw_T := lw_T_mem (List.mem_of_getElem? (i := 908) (by decide +kernel)) (by decide +kernel)
set_option maxRecDepth 100000 in
theorem cs_X4_slotOf : Cond.selects yX4_slotOf.cls yX4_slotOf yX4_slotOf ∈ lw_T := lw_T_mem (List.mem_of_getElem? (i := 909) (by decide +kernel)) (by decide +kernel)
set_option maxRecDepth 100000 in
theorem mw_L_47 : Cond.methodLink RL 47 yX4_slotOf ∈ lw_T := lw_T_mem (List.mem_of_getElem? (i := 907) (by decide +kernel)) (by decide +kernel)
theorem ci_L_47 : CI RL 47 yX4_slotOf cX4_slotOf 2 (some .int) 1 := ⟨mw_L_47, cx_X4_slotOf, cw_X4_slotOf, by decide, by decide, by decide +kernel⟩
set_option maxRecDepth 100000 in
theorem cw_X4_isDark : Cond.code yX4_isDark cX4_isDark 2 (some .boolean) ∈ lw_T := lw_T_mem (List.mem_of_getElem? (i := 917) (by decide +kernel)) (by decide +kernel)
set_option maxRecDepth 100000 in
theorem cx_X4_isDark : Cond.initialized yX4_isDark.cls ∈ lw_T := lw_T_mem (List.mem_of_getElem? (i := 44) (by decide +kernel)) (by decide +kernel)
set_option maxRecDepth 100000 in
theorem ct_X4_isDark : Cond.instanceMethod yX4_isDark ∈ lw_T := lw_T_mem (List.mem_of_getElem? (i := 915) (by decide +kernel)) (by decide +kernel)
set_option maxRecDepth 100000 in
theorem cs_X4_isDark : Cond.selects yX4_isDark.cls yX4_isDark yX4_isDark ∈ lw_T := lw_T_mem (List.mem_of_getElem? (i := 916) (by decide +kernel)) (by decide +kernel)
set_option maxRecDepth 100000 in
theorem mw_L_50 : Cond.methodLink RL 50 yX4_isDark ∈ lw_T := lw_T_mem (List.mem_of_getElem? (i := 914) (by decide +kernel)) (by decide +kernel)
theorem ci_L_50 : CI RL 50 yX4_isDark cX4_isDark 2 (some .boolean) 1 := ⟨mw_L_50, cx_X4_isDark, cw_X4_isDark, by decide, by decide, by decide +kernel⟩
set_option maxRecDepth 100000 in
theorem cw_X4_machineAt : Cond.code yX4_machineAt cX4_machineAt 4 (some .int) ∈ lw_T := lw_T_mem (List.mem_of_getElem? (i := 924) (by decide +kernel)) (by decide +kernel)
set_option maxRecDepth 100000 in
theorem cx_X4_machineAt : Cond.initialized yX4_machineAt.cls ∈ lw_T := lw_T_mem (List.mem_of_getElem? (i := 44) (by decide +kernel)) (by decide +kernel)
set_option maxRecDepth 100000 in
theorem ct_X4_machineAt : Cond.instanceMethod yX4_machineAt ∈ lw_T := lw_T_mem (List.mem_of_getElem? (i := 922) (by decide +kernel)) (by decide +kernel)
set_option maxRecDepth 100000 in
theorem cs_X4_machineAt : Cond.selects yX4_machineAt.cls yX4_machineAt yX4_machineAt ∈ lw_T := lw_T_mem (List.mem_of_getElem? (i := 923) (by decide +kernel)) (by decide +kernel)
set_option maxRecDepth 100000 in
theorem mw_L_53 : Cond.methodLink RL 53 yX4_machineAt ∈ lw_T := lw_T_mem (List.mem_of_getElem? (i := 921) (by decide +kernel)) (by decide +kernel)
theorem ci_L_53 : CI RL 53 yX4_machineAt cX4_machineAt 4 (some .int) 2 := ⟨mw_L_53, cx_X4_machineAt, cw_X4_machineAt, by decide, by decide, by decide +kernel⟩
set_option maxRecDepth 100000 in
theorem cw_X4_next : Cond.code yX4_next cX4_next 3 (some .int) ∈ lw_T := lw_T_mem (List.mem_of_getElem? (i := 938) (by decide +kernel)) (by decide +kernel)
set_option maxRecDepth 100000 in
theorem cx_X4_next : Cond.initialized yX4_next.cls ∈ lw_T := lw_T_mem (List.mem_of_getElem? (i := 44) (by decide +kernel)) (by decide +kernel)
set_option maxRecDepth 100000 in
theorem ct_X4_next : Cond.instanceMethod yX4_next ∈ lw_T := lw_T_mem (List.mem_of_getElem? (i := 936) (by decide +kernel)) (by decide +kernel)
set_option maxRecDepth 100000 in
theorem cs_X4_next : Cond.selects yX4_next.cls yX4_next yX4_next ∈ lw_T := lw_T_mem (List.mem_of_getElem? (i := 937) (by decide +kernel)) (by decide +kernel)
set_option maxRecDepth 100000 in
theorem mw_L_56 : Cond.methodLink RL 56 yX4_next ∈ lw_T := lw_T_mem (List.mem_of_getElem? (i := 935) (by decide +kernel)) (by decide +kernel)
theorem ci_L_56 : CI RL 56 yX4_next cX4_next 3 (some .int) 1 := ⟨mw_L_56, cx_X4_next, cw_X4_next, by decide, by decide, by decide +kernel⟩
set_option maxRecDepth 100000 in
theorem cw_X4_powerOf : Cond.code yX4_powerOf cX4_powerOf 6 (some .int) ∈ lw_T := lw_T_mem (List.mem_of_getElem? (i := 949) (by decide +kernel)) (by decide +kernel)
set_option maxRecDepth 100000 in
theorem cx_X4_powerOf : Cond.initialized yX4_powerOf.cls ∈ lw_T := lw_T_mem (List.mem_of_getElem? (i := 44) (by decide +kernel)) (by decide +kernel)
set_option maxRecDepth 100000 in
theorem ct_X4_powerOf : Cond.instanceMethod yX4_powerOf ∈ lw_T := lw_T_mem (List.mem_of_getElem? (i := 947) (by decide +kernel)) (by decide +kernel)
set_option maxRecDepth 100000 in
theorem cs_X4_powerOf : Cond.selects yX4_powerOf.cls yX4_powerOf yX4_powerOf ∈ lw_T := lw_T_mem (List.mem_of_getElem? (i := 948) (by decide +kernel)) (by decide +kernel)
set_option maxRecDepth 100000 in
theorem mw_L_59 : Cond.methodLink RL 59 yX4_powerOf ∈ lw_T := lw_T_mem (List.mem_of_getElem? (i := 946) (by decide +kernel)) (by decide +kernel)
theorem ci_L_59 : CI RL 59 yX4_powerOf cX4_powerOf 6 (some .int) 2 := ⟨mw_L_59, cx_X4_powerOf, cw_X4_powerOf, by decide, by decide, by decide +kernel⟩
set_option maxRecDepth 100000 in
theorem cw_X4_worstOf : Cond.code yX4_worstOf cX4_worstOf 3 (some .int) ∈ lw_T := lw_T_mem (List.mem_of_getElem? (i := 960) (by decide +kernel)) (by decide +kernel)
set_option maxRecDepth 100000 in
theorem cx_X4_worstOf : Cond.initialized yX4_worstOf.cls ∈ lw_T := lw_T_mem (List.mem_of_getElem? (i := 44) (by decide +kernel)) (by decide +kernel)
set_option maxRecDepth 100000 in
theorem ct_X4_worstOf : Cond.instanceMethod yX4_worstOf ∈ lw_T := lw_T_mem (List.mem_of_getElem? (i := 958) (by decide +kernel)) (by decide +kernel)
set_option maxRecDepth 100000 in
theorem cs_X4_worstOf : Cond.selects yX4_worstOf.cls yX4_worstOf yX4_worstOf ∈ lw_T := lw_T_mem (List.mem_of_getElem? (i := 959) (by decide +kernel)) (by decide +kernel)
set_option maxRecDepth 100000 in
theorem mw_L_62 : Cond.methodLink RL 62 yX4_worstOf ∈ lw_T := lw_T_mem (List.mem_of_getElem? (i := 957) (by decide +kernel)) (by decide +kernel)
theorem ci_L_62 : CI RL 62 yX4_worstOf cX4_worstOf 3 (some .int) 2 := ⟨mw_L_62, cx_X4_worstOf, cw_X4_worstOf, by decide, by decide, by decide +kernel⟩
set_option maxRecDepth 100000 in
theorem cw_X4_weightOf : Cond.code yX4_weightOf cX4_weightOf 2 (some .int) ∈ lw_T := lw_T_mem (List.mem_of_getElem? (i := 967) (by decide +kernel)) (by decide +kernel)
set_option maxRecDepth 100000 in
theorem cx_X4_weightOf : Cond.initialized yX4_weightOf.cls ∈ lw_T := lw_T_mem (List.mem_of_getElem? (i := 44) (by decide +kernel)) (by decide +kernel)
set_option maxRecDepth 100000 in
theorem ct_X4_weightOf : Cond.instanceMethod yX4_weightOf ∈ lw_T := lw_T_mem (List.mem_of_getElem? (i := 965) (by decide +kernel)) (by decide +kernel)
set_option maxRecDepth 100000 in
theorem cs_X4_weightOf : Cond.selects yX4_weightOf.cls yX4_weightOf yX4_weightOf ∈ lw_T := lw_T_mem (List.mem_of_getElem? (i := 966) (by decide +kernel)) (by decide +kernel)
set_option maxRecDepth 100000 in
theorem mw_L_65 : Cond.methodLink RL 65 yX4_weightOf ∈ lw_T := lw_T_mem (List.mem_of_getElem? (i := 964) (by decide +kernel)) (by decide +kernel)
theorem ci_L_65 : CI RL 65 yX4_weightOf cX4_weightOf 2 (some .int) 1 := ⟨mw_L_65, cx_X4_weightOf, cw_X4_weightOf, by decide, by decide, by decide +kernel⟩
set_option maxRecDepth 100000 in
theorem cw_X4_heatOf : Cond.code yX4_heatOf cX4_heatOf 5 (some .int) ∈ lw_T := lw_T_mem (List.mem_of_getElem? (i := 974) (by decide +kernel)) (by decide +kernel)
set_option maxRecDepth 100000 in
theorem cx_X4_heatOf : Cond.initialized yX4_heatOf.cls ∈ lw_T := lw_T_mem (List.mem_of_getElem? (i := 44) (by decide +kernel)) (by decide +kernel)
set_option maxRecDepth 100000 in
theorem ct_X4_heatOf : Cond.instanceMethod yX4_heatOf ∈ lw_T := lw_T_mem (List.mem_of_getElem? (i := 972) (by decide +kernel)) (by decide +kernel)
set_option maxRecDepth 100000 in
theorem cs_X4_heatOf : Cond.selects yX4_heatOf.cls yX4_heatOf yX4_heatOf ∈ lw_T := lw_T_mem (List.mem_of_getElem? (i := 973) (by decide +kernel)) (by decide +kernel)
set_option maxRecDepth 100000 in
theorem mw_L_68 : Cond.methodLink RL 68 yX4_heatOf ∈ lw_T := lw_T_mem (List.mem_of_getElem? (i := 971) (by decide +kernel)) (by decide +kernel)
theorem ci_L_68 : CI RL 68 yX4_heatOf cX4_heatOf 5 (some .int) 1 := ⟨mw_L_68, cx_X4_heatOf, cw_X4_heatOf, by decide, by decide, by decide +kernel⟩
set_option maxRecDepth 100000 in
theorem cw_X4_gap : Cond.code yX4_gap cX4_gap 2 (some .int) ∈ lw_T := lw_T_mem (List.mem_of_getElem? (i := 985) (by decide +kernel)) (by decide +kernel)
set_option maxRecDepth 100000 in
theorem cx_X4_gap : Cond.initialized yX4_gap.cls ∈ lw_T := lw_T_mem (List.mem_of_getElem? (i := 44) (by decide +kernel)) (by decide +kernel)
set_option maxRecDepth 100000 in
theorem ct_X4_gap : Cond.instanceMethod yX4_gap ∈ lw_T := lw_T_mem (List.mem_of_getElem? (i := 983) (by decide +kernel)) (by decide +kernel)
set_option maxRecDepth 100000 in
theorem cs_X4_gap : Cond.selects yX4_gap.cls yX4_gap yX4_gap ∈ lw_T := lw_T_mem (List.mem_of_getElem? (i := 984) (by decide +kernel)) (by decide +kernel)
set_option maxRecDepth 100000 in
theorem mw_L_71 : Cond.methodLink RL 71 yX4_gap ∈ lw_T := lw_T_mem (List.mem_of_getElem? (i := 982) (by decide +kernel)) (by decide +kernel)
theorem ci_L_71 : CI RL 71 yX4_gap cX4_gap 2 (some .int) 1 := ⟨mw_L_71, cx_X4_gap, cw_X4_gap, by decide, by decide, by decide +kernel⟩
set_option maxRecDepth 100000 in
theorem cw_X4_racksFor : Cond.code yX4_racksFor cX4_racksFor 8 (some .int) ∈ lw_T := lw_T_mem (List.mem_of_getElem? (i := 997) (by decide +kernel)) (by decide +kernel)
set_option maxRecDepth 100000 in
theorem cx_X4_racksFor : Cond.initialized yX4_racksFor.cls ∈ lw_T := lw_T_mem (List.mem_of_getElem? (i := 44) (by decide +kernel)) (by decide +kernel)
set_option maxRecDepth 100000 in
theorem ct_X4_racksFor : Cond.instanceMethod yX4_racksFor ∈ lw_T := lw_T_mem (List.mem_of_getElem? (i := 995) (by decide +kernel)) (by decide +kernel)
set_option maxRecDepth 100000 in
theorem cs_X4_racksFor : Cond.selects yX4_racksFor.cls yX4_racksFor yX4_racksFor ∈ lw_T := lw_T_mem (List.mem_of_getElem? (i := 996) (by decide +kernel)) (by decide +kernel)
set_option maxRecDepth 100000 in
theorem mw_L_74 : Cond.methodLink RL 74 yX4_racksFor ∈ lw_T := lw_T_mem (List.mem_of_getElem? (i := 994) (by decide +kernel)) (by decide +kernel)
theorem ci_L_74 : CI RL 74 yX4_racksFor cX4_racksFor 8 (some .int) 4 := ⟨mw_L_74, cx_X4_racksFor, cw_X4_racksFor, by decide, by decide, by decide +kernel⟩
set_option maxRecDepth 100000 in
theorem cw_X4_roomFor : Cond.code yX4_roomFor cX4_roomFor 8 (some .int) ∈ lw_T := lw_T_mem (List.mem_of_getElem? (i := 1005) (by decide +kernel)) (by decide +kernel)
set_option maxRecDepth 100000 in
theorem cx_X4_roomFor : Cond.initialized yX4_roomFor.cls ∈ lw_T := lw_T_mem (List.mem_of_getElem? (i := 44) (by decide +kernel)) (by decide +kernel)
set_option maxRecDepth 100000 in
theorem ct_X4_roomFor : Cond.instanceMethod yX4_roomFor ∈ lw_T := lw_T_mem (List.mem_of_getElem? (i := 1003) (by decide +kernel)) (by decide +kernel)
set_option maxRecDepth 100000 in
theorem cs_X4_roomFor : Cond.selects yX4_roomFor.cls yX4_roomFor yX4_roomFor ∈ lw_T := lw_T_mem (List.mem_of_getElem? (i := 1004) (by decide +kernel)) (by decide +kernel)
set_option maxRecDepth 100000 in
theorem mw_L_77 : Cond.methodLink RL 77 yX4_roomFor ∈ lw_T := lw_T_mem (List.mem_of_getElem? (i := 1002) (by decide +kernel)) (by decide +kernel)
theorem ci_L_77 : CI RL 77 yX4_roomFor cX4_roomFor 8 (some .int) 4 := ⟨mw_L_77, cx_X4_roomFor, cw_X4_roomFor, by decide, by decide, by decide +kernel⟩
set_option maxRecDepth 100000 in
theorem cw_X4_roomByCounting : Cond.code yX4_roomByCounting cX4_roomByCounting 9 (some .int) ∈ lw_T := lw_T_mem (List.mem_of_getElem? (i := 1022) (by decide +kernel)) (by decide +kernel)
set_option maxRecDepth 100000 in
theorem cx_X4_roomByCounting : Cond.initialized yX4_roomByCounting.cls ∈ lw_T := lw_T_mem (List.mem_of_getElem? (i := 44) (by decide +kernel)) (by decide +kernel)
set_option maxRecDepth 100000 in
theorem ct_X4_roomByCounting : Cond.instanceMethod yX4_roomByCounting ∈ lw_T := lw_T_mem (List.mem_of_getElem? (i := 1020) (by decide +kernel)) (by decide +kernel)
set_option maxRecDepth 100000 in
theorem cs_X4_roomByCounting : Cond.selects yX4_roomByCounting.cls yX4_roomByCounting yX4_roomByCounting ∈ lw_T := lw_T_mem (List.mem_of_getElem? (i := 1021) (by decide +kernel)) (by decide +kernel)
set_option maxRecDepth 100000 in
theorem mw_L_80 : Cond.methodLink RL 80 yX4_roomByCounting ∈ lw_T := lw_T_mem (List.mem_of_getElem? (i := 1019) (by decide +kernel)) (by decide +kernel)
theorem ci_L_80 : CI RL 80 yX4_roomByCounting cX4_roomByCounting 9 (some .int) 4 := ⟨mw_L_80, cx_X4_roomByCounting, cw_X4_roomByCounting, by decide, by decide, by decide +kernel⟩
set_option maxRecDepth 100000 in
theorem cw_X4_init : Cond.code yX4_init cX4_init 1 none ∈ lw_T := lw_T_mem (List.mem_of_getElem? (i := 76) (by decide +kernel)) (by decide +kernel)
set_option maxRecDepth 100000 in
theorem cx_X4_init : Cond.initialized yX4_init.cls ∈ lw_T := lw_T_mem (List.mem_of_getElem? (i := 44) (by decide +kernel)) (by decide +kernel)
set_option maxRecDepth 100000 in
theorem ct_X4_init : Cond.instanceMethod yX4_init ∈ lw_T := lw_T_mem (List.mem_of_getElem? (i := 75) (by decide +kernel)) (by decide +kernel)
set_option maxRecDepth 100000 in
theorem mw_L_83 : Cond.methodLink RL 83 yX4_init ∈ lw_T := lw_T_mem (List.mem_of_getElem? (i := 74) (by decide +kernel)) (by decide +kernel)
theorem ci_L_83 : CI RL 83 yX4_init cX4_init 1 none 0 := ⟨mw_L_83, cx_X4_init, cw_X4_init, by decide, by decide, by decide +kernel⟩
set_option maxRecDepth 100000 in
theorem tk_L_84 : Cond.classLink RL 84 "RackPlannerModel" ∈ lw_T := lw_T_mem (List.mem_of_getElem? (i := 1041) (by decide +kernel)) (by decide +kernel)
set_option maxRecDepth 100000 in
theorem iw_L_84 : Cond.instantiable RX5 21 ∈ lw_T := lw_T_mem (List.mem_of_getElem? (i := 1042) (by decide +kernel)) (by decide +kernel)
set_option maxRecDepth 100000 in
theorem ix_L_84 : Cond.initialized RX5 ∈ lw_T := lw_T_mem (List.mem_of_getElem? (i := 51) (by decide +kernel)) (by decide +kernel)
theorem fn_L_84 : FN RL 84 8 21 [.int 0, .null, .null, .null, .null, .int 0, .null, .null, .null, .null, .null, .null, .null, .null, .null, .null, .null, .int 0, .int 0, .null, .null] := ⟨RX5, TX5, tyX5, rfl, in_X5, tyX5_ok, tk_L_84, iw_L_84, ix_L_84, by intro j hj; rcases (show j = 0 ∨ j = 1 ∨ j = 2 ∨ j = 3 ∨ j = 4 ∨ j = 5 ∨ j = 6 ∨ j = 7 ∨ j = 8 ∨ j = 9 ∨ j = 10 ∨ j = 11 ∨ j = 12 ∨ j = 13 ∨ j = 14 ∨ j = 15 ∨ j = 16 ∨ j = 17 ∨ j = 18 ∨ j = 19 ∨ j = 20 by omega) with rfl | rfl | rfl | rfl | rfl | rfl | rfl | rfl | rfl | rfl | rfl | rfl | rfl | rfl | rfl | rfl | rfl | rfl | rfl | rfl | rfl <;> rfl⟩
set_option maxRecDepth 100000 in
theorem cw_X5_init : Cond.code yX5_init cX5_init 2 none ∈ lw_T := lw_T_mem (List.mem_of_getElem? (i := 1045) (by decide +kernel)) (by decide +kernel)
set_option maxRecDepth 100000 in
theorem cx_X5_init : Cond.initialized yX5_init.cls ∈ lw_T := lw_T_mem (List.mem_of_getElem? (i := 51) (by decide +kernel)) (by decide +kernel)
set_option maxRecDepth 100000 in
theorem ct_X5_init : Cond.instanceMethod yX5_init ∈ lw_T := lw_T_mem (List.mem_of_getElem? (i := 1044) (by decide +kernel)) (by decide +kernel)
set_option maxRecDepth 100000 in
theorem mw_L_86 : Cond.methodLink RL 86 yX5_init ∈ lw_T := lw_T_mem (List.mem_of_getElem? (i := 1043) (by decide +kernel)) (by decide +kernel)
theorem ci_L_86 : CI RL 86 yX5_init cX5_init 2 none 0 := ⟨mw_L_86, cx_X5_init, cw_X5_init, by decide, by decide, by decide +kernel⟩
set_option maxRecDepth 100000 in
theorem cw_X5_addRack : Cond.code yX5_addRack cX5_addRack 6 (some .int) ∈ lw_T := lw_T_mem (List.mem_of_getElem? (i := 1118) (by decide +kernel)) (by decide +kernel)
set_option maxRecDepth 100000 in
theorem cx_X5_addRack : Cond.initialized yX5_addRack.cls ∈ lw_T := lw_T_mem (List.mem_of_getElem? (i := 51) (by decide +kernel)) (by decide +kernel)
set_option maxRecDepth 100000 in
theorem ct_X5_addRack : Cond.instanceMethod yX5_addRack ∈ lw_T := lw_T_mem (List.mem_of_getElem? (i := 1116) (by decide +kernel)) (by decide +kernel)
set_option maxRecDepth 100000 in
theorem cs_X5_addRack : Cond.selects yX5_addRack.cls yX5_addRack yX5_addRack ∈ lw_T := lw_T_mem (List.mem_of_getElem? (i := 1117) (by decide +kernel)) (by decide +kernel)
set_option maxRecDepth 100000 in
theorem mw_L_92 : Cond.methodLink RL 92 yX5_addRack ∈ lw_T := lw_T_mem (List.mem_of_getElem? (i := 1115) (by decide +kernel)) (by decide +kernel)
theorem ci_L_92 : CI RL 92 yX5_addRack cX5_addRack 6 (some .int) 4 := ⟨mw_L_92, cx_X5_addRack, cw_X5_addRack, by decide, by decide, by decide +kernel⟩
set_option maxRecDepth 100000 in
theorem cw_X5_thrown : Cond.code yX5_thrown cX5_thrown 1 (some .int) ∈ lw_T := lw_T_mem (List.mem_of_getElem? (i := 1114) (by decide +kernel)) (by decide +kernel)
set_option maxRecDepth 100000 in
theorem cx_X5_thrown : Cond.initialized yX5_thrown.cls ∈ lw_T := lw_T_mem (List.mem_of_getElem? (i := 51) (by decide +kernel)) (by decide +kernel)
set_option maxRecDepth 100000 in
theorem ct_X5_thrown : Cond.instanceMethod yX5_thrown ∈ lw_T := lw_T_mem (List.mem_of_getElem? (i := 1112) (by decide +kernel)) (by decide +kernel)
set_option maxRecDepth 100000 in
theorem cs_X5_thrown : Cond.selects yX5_thrown.cls yX5_thrown yX5_thrown ∈ lw_T := lw_T_mem (List.mem_of_getElem? (i := 1113) (by decide +kernel)) (by decide +kernel)
set_option maxRecDepth 100000 in
theorem mw_L_93 : Cond.methodLink RL 93 yX5_thrown ∈ lw_T := lw_T_mem (List.mem_of_getElem? (i := 1111) (by decide +kernel)) (by decide +kernel)
theorem ci_L_93 : CI RL 93 yX5_thrown cX5_thrown 1 (some .int) 0 := ⟨mw_L_93, cx_X5_thrown, cw_X5_thrown, by decide, by decide, by decide +kernel⟩
set_option maxRecDepth 100000 in
theorem cw_X5_setRow : Cond.code yX5_setRow cX5_setRow 5 none ∈ lw_T := lw_T_mem (List.mem_of_getElem? (i := 1129) (by decide +kernel)) (by decide +kernel)
set_option maxRecDepth 100000 in
theorem cx_X5_setRow : Cond.initialized yX5_setRow.cls ∈ lw_T := lw_T_mem (List.mem_of_getElem? (i := 51) (by decide +kernel)) (by decide +kernel)
set_option maxRecDepth 100000 in
theorem ct_X5_setRow : Cond.instanceMethod yX5_setRow ∈ lw_T := lw_T_mem (List.mem_of_getElem? (i := 1127) (by decide +kernel)) (by decide +kernel)
set_option maxRecDepth 100000 in
theorem cs_X5_setRow : Cond.selects yX5_setRow.cls yX5_setRow yX5_setRow ∈ lw_T := lw_T_mem (List.mem_of_getElem? (i := 1128) (by decide +kernel)) (by decide +kernel)
set_option maxRecDepth 100000 in
theorem mw_L_100 : Cond.methodLink RL 100 yX5_setRow ∈ lw_T := lw_T_mem (List.mem_of_getElem? (i := 1126) (by decide +kernel)) (by decide +kernel)
theorem ci_L_100 : CI RL 100 yX5_setRow cX5_setRow 5 none 3 := ⟨mw_L_100, cx_X5_setRow, cw_X5_setRow, by decide, by decide, by decide +kernel⟩
set_option maxRecDepth 100000 in
theorem cw_X5_setFeed : Cond.code yX5_setFeed cX5_setFeed 5 (some .int) ∈ lw_T := lw_T_mem (List.mem_of_getElem? (i := 1145) (by decide +kernel)) (by decide +kernel)
set_option maxRecDepth 100000 in
theorem cx_X5_setFeed : Cond.initialized yX5_setFeed.cls ∈ lw_T := lw_T_mem (List.mem_of_getElem? (i := 51) (by decide +kernel)) (by decide +kernel)
set_option maxRecDepth 100000 in
theorem ct_X5_setFeed : Cond.instanceMethod yX5_setFeed ∈ lw_T := lw_T_mem (List.mem_of_getElem? (i := 1143) (by decide +kernel)) (by decide +kernel)
set_option maxRecDepth 100000 in
theorem cs_X5_setFeed : Cond.selects yX5_setFeed.cls yX5_setFeed yX5_setFeed ∈ lw_T := lw_T_mem (List.mem_of_getElem? (i := 1144) (by decide +kernel)) (by decide +kernel)
set_option maxRecDepth 100000 in
theorem mw_L_104 : Cond.methodLink RL 104 yX5_setFeed ∈ lw_T := lw_T_mem (List.mem_of_getElem? (i := 1142) (by decide +kernel)) (by decide +kernel)
theorem ci_L_104 : CI RL 104 yX5_setFeed cX5_setFeed 5 (some .int) 2 := ⟨mw_L_104, cx_X5_setFeed, cw_X5_setFeed, by decide, by decide, by decide +kernel⟩
set_option maxRecDepth 100000 in
theorem cw_X5_switchFeed : Cond.code yX5_switchFeed cX5_switchFeed 4 (some .int) ∈ lw_T := lw_T_mem (List.mem_of_getElem? (i := 1156) (by decide +kernel)) (by decide +kernel)
set_option maxRecDepth 100000 in
theorem cx_X5_switchFeed : Cond.initialized yX5_switchFeed.cls ∈ lw_T := lw_T_mem (List.mem_of_getElem? (i := 51) (by decide +kernel)) (by decide +kernel)
set_option maxRecDepth 100000 in
theorem ct_X5_switchFeed : Cond.instanceMethod yX5_switchFeed ∈ lw_T := lw_T_mem (List.mem_of_getElem? (i := 1154) (by decide +kernel)) (by decide +kernel)
set_option maxRecDepth 100000 in
theorem cs_X5_switchFeed : Cond.selects yX5_switchFeed.cls yX5_switchFeed yX5_switchFeed ∈ lw_T := lw_T_mem (List.mem_of_getElem? (i := 1155) (by decide +kernel)) (by decide +kernel)
set_option maxRecDepth 100000 in
theorem mw_L_108 : Cond.methodLink RL 108 yX5_switchFeed ∈ lw_T := lw_T_mem (List.mem_of_getElem? (i := 1153) (by decide +kernel)) (by decide +kernel)
theorem ci_L_108 : CI RL 108 yX5_switchFeed cX5_switchFeed 4 (some .int) 1 := ⟨mw_L_108, cx_X5_switchFeed, cw_X5_switchFeed, by decide, by decide, by decide +kernel⟩
set_option maxRecDepth 100000 in
theorem cw_X5_hasFailed : Cond.code yX5_hasFailed cX5_hasFailed 2 (some .boolean) ∈ lw_T := lw_T_mem (List.mem_of_getElem? (i := 1164) (by decide +kernel)) (by decide +kernel)
set_option maxRecDepth 100000 in
theorem cx_X5_hasFailed : Cond.initialized yX5_hasFailed.cls ∈ lw_T := lw_T_mem (List.mem_of_getElem? (i := 51) (by decide +kernel)) (by decide +kernel)
set_option maxRecDepth 100000 in
theorem ct_X5_hasFailed : Cond.instanceMethod yX5_hasFailed ∈ lw_T := lw_T_mem (List.mem_of_getElem? (i := 1162) (by decide +kernel)) (by decide +kernel)
set_option maxRecDepth 100000 in
theorem cs_X5_hasFailed : Cond.selects yX5_hasFailed.cls yX5_hasFailed yX5_hasFailed ∈ lw_T := lw_T_mem (List.mem_of_getElem? (i := 1163) (by decide +kernel)) (by decide +kernel)
set_option maxRecDepth 100000 in
theorem mw_L_111 : Cond.methodLink RL 111 yX5_hasFailed ∈ lw_T := lw_T_mem (List.mem_of_getElem? (i := 1161) (by decide +kernel)) (by decide +kernel)
theorem ci_L_111 : CI RL 111 yX5_hasFailed cX5_hasFailed 2 (some .boolean) 1 := ⟨mw_L_111, cx_X5_hasFailed, cw_X5_hasFailed, by decide, by decide, by decide +kernel⟩
set_option maxRecDepth 100000 in
theorem cw_X4_racks : Cond.code yX4_racks cX4_racks 1 (some .int) ∈ lw_T := lw_T_mem (List.mem_of_getElem? (i := 193) (by decide +kernel)) (by decide +kernel)
set_option maxRecDepth 100000 in
theorem cx_X4_racks : Cond.initialized yX4_racks.cls ∈ lw_T := lw_T_mem (List.mem_of_getElem? (i := 44) (by decide +kernel)) (by decide +kernel)
set_option maxRecDepth 100000 in
theorem ct_X4_racks : Cond.instanceMethod yX4_racks ∈ lw_T := lw_T_mem (List.mem_of_getElem? (i := 191) (by decide +kernel)) (by decide +kernel)
set_option maxRecDepth 100000 in
theorem cs_X4_racks : Cond.selects yX4_racks.cls yX4_racks yX4_racks ∈ lw_T := lw_T_mem (List.mem_of_getElem? (i := 192) (by decide +kernel)) (by decide +kernel)
set_option maxRecDepth 100000 in
theorem mw_L_112 : Cond.methodLink RL 112 yX4_racks ∈ lw_T := lw_T_mem (List.mem_of_getElem? (i := 190) (by decide +kernel)) (by decide +kernel)
theorem ci_L_112 : CI RL 112 yX4_racks cX4_racks 1 (some .int) 0 := ⟨mw_L_112, cx_X4_racks, cw_X4_racks, by decide, by decide, by decide +kernel⟩
set_option maxRecDepth 100000 in
theorem cw_X5_racks : Cond.code yX5_racks cX5_racks 1 (some .int) ∈ lw_T := lw_T_mem (List.mem_of_getElem? (i := 1168) (by decide +kernel)) (by decide +kernel)
set_option maxRecDepth 100000 in
theorem cx_X5_racks : Cond.initialized yX5_racks.cls ∈ lw_T := lw_T_mem (List.mem_of_getElem? (i := 51) (by decide +kernel)) (by decide +kernel)
set_option maxRecDepth 100000 in
theorem ct_X5_racks : Cond.instanceMethod yX5_racks ∈ lw_T := lw_T_mem (List.mem_of_getElem? (i := 1166) (by decide +kernel)) (by decide +kernel)
set_option maxRecDepth 100000 in
theorem cs_X5_racks : Cond.selects yX5_racks.cls yX5_racks yX5_racks ∈ lw_T := lw_T_mem (List.mem_of_getElem? (i := 1167) (by decide +kernel)) (by decide +kernel)
set_option maxRecDepth 100000 in
theorem mw_L_115 : Cond.methodLink RL 115 yX5_racks ∈ lw_T := lw_T_mem (List.mem_of_getElem? (i := 1165) (by decide +kernel)) (by decide +kernel)
theorem ci_L_115 : CI RL 115 yX5_racks cX5_racks 1 (some .int) 0 := ⟨mw_L_115, cx_X5_racks, cw_X5_racks, by decide, by decide, by decide +kernel⟩
set_option maxRecDepth 100000 in
theorem cw_X5_place : Cond.code yX5_place cX5_place 6 (some .int) ∈ lw_T := lw_T_mem (List.mem_of_getElem? (i := 1172) (by decide +kernel)) (by decide +kernel)
set_option maxRecDepth 100000 in
theorem cx_X5_place : Cond.initialized yX5_place.cls ∈ lw_T := lw_T_mem (List.mem_of_getElem? (i := 51) (by decide +kernel)) (by decide +kernel)
set_option maxRecDepth 100000 in
theorem ct_X5_place : Cond.instanceMethod yX5_place ∈ lw_T := lw_T_mem (List.mem_of_getElem? (i := 1170) (by decide +kernel)) (by decide +kernel)
set_option maxRecDepth 100000 in
theorem cs_X5_place : Cond.selects yX5_place.cls yX5_place yX5_place ∈ lw_T := lw_T_mem (List.mem_of_getElem? (i := 1171) (by decide +kernel)) (by decide +kernel)
set_option maxRecDepth 100000 in
theorem mw_L_118 : Cond.methodLink RL 118 yX5_place ∈ lw_T := lw_T_mem (List.mem_of_getElem? (i := 1169) (by decide +kernel)) (by decide +kernel)
theorem ci_L_118 : CI RL 118 yX5_place cX5_place 6 (some .int) 4 := ⟨mw_L_118, cx_X5_place, cw_X5_place, by decide, by decide, by decide +kernel⟩
set_option maxRecDepth 100000 in
theorem cw_X5_takeOut : Cond.code yX5_takeOut cX5_takeOut 5 (some .int) ∈ lw_T := lw_T_mem (List.mem_of_getElem? (i := 1199) (by decide +kernel)) (by decide +kernel)
set_option maxRecDepth 100000 in
theorem cx_X5_takeOut : Cond.initialized yX5_takeOut.cls ∈ lw_T := lw_T_mem (List.mem_of_getElem? (i := 51) (by decide +kernel)) (by decide +kernel)
set_option maxRecDepth 100000 in
theorem ct_X5_takeOut : Cond.instanceMethod yX5_takeOut ∈ lw_T := lw_T_mem (List.mem_of_getElem? (i := 1197) (by decide +kernel)) (by decide +kernel)
set_option maxRecDepth 100000 in
theorem cs_X5_takeOut : Cond.selects yX5_takeOut.cls yX5_takeOut yX5_takeOut ∈ lw_T := lw_T_mem (List.mem_of_getElem? (i := 1198) (by decide +kernel)) (by decide +kernel)
set_option maxRecDepth 100000 in
theorem mw_L_121 : Cond.methodLink RL 121 yX5_takeOut ∈ lw_T := lw_T_mem (List.mem_of_getElem? (i := 1196) (by decide +kernel)) (by decide +kernel)
theorem ci_L_121 : CI RL 121 yX5_takeOut cX5_takeOut 5 (some .int) 1 := ⟨mw_L_121, cx_X5_takeOut, cw_X5_takeOut, by decide, by decide, by decide +kernel⟩
set_option maxRecDepth 100000 in
theorem cw_X5_cord : Cond.code yX5_cord cX5_cord 7 (some .int) ∈ lw_T := lw_T_mem (List.mem_of_getElem? (i := 1207) (by decide +kernel)) (by decide +kernel)
set_option maxRecDepth 100000 in
theorem cx_X5_cord : Cond.initialized yX5_cord.cls ∈ lw_T := lw_T_mem (List.mem_of_getElem? (i := 51) (by decide +kernel)) (by decide +kernel)
set_option maxRecDepth 100000 in
theorem ct_X5_cord : Cond.instanceMethod yX5_cord ∈ lw_T := lw_T_mem (List.mem_of_getElem? (i := 1205) (by decide +kernel)) (by decide +kernel)
set_option maxRecDepth 100000 in
theorem cs_X5_cord : Cond.selects yX5_cord.cls yX5_cord yX5_cord ∈ lw_T := lw_T_mem (List.mem_of_getElem? (i := 1206) (by decide +kernel)) (by decide +kernel)
set_option maxRecDepth 100000 in
theorem mw_L_124 : Cond.methodLink RL 124 yX5_cord ∈ lw_T := lw_T_mem (List.mem_of_getElem? (i := 1204) (by decide +kernel)) (by decide +kernel)
theorem ci_L_124 : CI RL 124 yX5_cord cX5_cord 7 (some .int) 2 := ⟨mw_L_124, cx_X5_cord, cw_X5_cord, by decide, by decide, by decide +kernel⟩
set_option maxRecDepth 100000 in
theorem cw_X4_pack : Cond.code yX4_pack cX4_pack 4 (some .int) ∈ lw_T := lw_T_mem (List.mem_of_getElem? (i := 201) (by decide +kernel)) (by decide +kernel)
set_option maxRecDepth 100000 in
theorem cx_X4_pack : Cond.initialized yX4_pack.cls ∈ lw_T := lw_T_mem (List.mem_of_getElem? (i := 44) (by decide +kernel)) (by decide +kernel)
set_option maxRecDepth 100000 in
theorem ct_X4_pack : Cond.instanceMethod yX4_pack ∈ lw_T := lw_T_mem (List.mem_of_getElem? (i := 199) (by decide +kernel)) (by decide +kernel)
set_option maxRecDepth 100000 in
theorem cs_X4_pack : Cond.selects yX4_pack.cls yX4_pack yX4_pack ∈ lw_T := lw_T_mem (List.mem_of_getElem? (i := 200) (by decide +kernel)) (by decide +kernel)
set_option maxRecDepth 100000 in
theorem mw_L_125 : Cond.methodLink RL 125 yX4_pack ∈ lw_T := lw_T_mem (List.mem_of_getElem? (i := 198) (by decide +kernel)) (by decide +kernel)
theorem ci_L_125 : CI RL 125 yX4_pack cX4_pack 4 (some .int) 0 := ⟨mw_L_125, cx_X4_pack, cw_X4_pack, by decide, by decide, by decide +kernel⟩
set_option maxRecDepth 100000 in
theorem cw_X5_pack : Cond.code yX5_pack cX5_pack 4 (some .int) ∈ lw_T := lw_T_mem (List.mem_of_getElem? (i := 1211) (by decide +kernel)) (by decide +kernel)
set_option maxRecDepth 100000 in
theorem cx_X5_pack : Cond.initialized yX5_pack.cls ∈ lw_T := lw_T_mem (List.mem_of_getElem? (i := 51) (by decide +kernel)) (by decide +kernel)
set_option maxRecDepth 100000 in
theorem ct_X5_pack : Cond.instanceMethod yX5_pack ∈ lw_T := lw_T_mem (List.mem_of_getElem? (i := 1209) (by decide +kernel)) (by decide +kernel)
set_option maxRecDepth 100000 in
theorem cs_X5_pack : Cond.selects yX5_pack.cls yX5_pack yX5_pack ∈ lw_T := lw_T_mem (List.mem_of_getElem? (i := 1210) (by decide +kernel)) (by decide +kernel)
set_option maxRecDepth 100000 in
theorem mw_L_128 : Cond.methodLink RL 128 yX5_pack ∈ lw_T := lw_T_mem (List.mem_of_getElem? (i := 1208) (by decide +kernel)) (by decide +kernel)
theorem ci_L_128 : CI RL 128 yX5_pack cX5_pack 4 (some .int) 0 := ⟨mw_L_128, cx_X5_pack, cw_X5_pack, by decide, by decide, by decide +kernel⟩
set_option maxRecDepth 100000 in
theorem cw_X4_machines : Cond.code yX4_machines cX4_machines 1 (some .int) ∈ lw_T := lw_T_mem (List.mem_of_getElem? (i := 687) (by decide +kernel)) (by decide +kernel)
set_option maxRecDepth 100000 in
theorem cx_X4_machines : Cond.initialized yX4_machines.cls ∈ lw_T := lw_T_mem (List.mem_of_getElem? (i := 44) (by decide +kernel)) (by decide +kernel)
set_option maxRecDepth 100000 in
theorem ct_X4_machines : Cond.instanceMethod yX4_machines ∈ lw_T := lw_T_mem (List.mem_of_getElem? (i := 685) (by decide +kernel)) (by decide +kernel)
set_option maxRecDepth 100000 in
theorem cs_X4_machines : Cond.selects yX4_machines.cls yX4_machines yX4_machines ∈ lw_T := lw_T_mem (List.mem_of_getElem? (i := 686) (by decide +kernel)) (by decide +kernel)
set_option maxRecDepth 100000 in
theorem mw_L_129 : Cond.methodLink RL 129 yX4_machines ∈ lw_T := lw_T_mem (List.mem_of_getElem? (i := 684) (by decide +kernel)) (by decide +kernel)
theorem ci_L_129 : CI RL 129 yX4_machines cX4_machines 1 (some .int) 0 := ⟨mw_L_129, cx_X4_machines, cw_X4_machines, by decide, by decide, by decide +kernel⟩
set_option maxRecDepth 100000 in
theorem cw_X5_machines : Cond.code yX5_machines cX5_machines 1 (some .int) ∈ lw_T := lw_T_mem (List.mem_of_getElem? (i := 1223) (by decide +kernel)) (by decide +kernel)
set_option maxRecDepth 100000 in
theorem cx_X5_machines : Cond.initialized yX5_machines.cls ∈ lw_T := lw_T_mem (List.mem_of_getElem? (i := 51) (by decide +kernel)) (by decide +kernel)
set_option maxRecDepth 100000 in
theorem ct_X5_machines : Cond.instanceMethod yX5_machines ∈ lw_T := lw_T_mem (List.mem_of_getElem? (i := 1221) (by decide +kernel)) (by decide +kernel)
set_option maxRecDepth 100000 in
theorem cs_X5_machines : Cond.selects yX5_machines.cls yX5_machines yX5_machines ∈ lw_T := lw_T_mem (List.mem_of_getElem? (i := 1222) (by decide +kernel)) (by decide +kernel)
set_option maxRecDepth 100000 in
theorem mw_L_132 : Cond.methodLink RL 132 yX5_machines ∈ lw_T := lw_T_mem (List.mem_of_getElem? (i := 1220) (by decide +kernel)) (by decide +kernel)
theorem ci_L_132 : CI RL 132 yX5_machines cX5_machines 1 (some .int) 0 := ⟨mw_L_132, cx_X5_machines, cw_X5_machines, by decide, by decide, by decide +kernel⟩
set_option maxRecDepth 100000 in
theorem cw_X5_rackOf : Cond.code yX5_rackOf cX5_rackOf 3 (some .int) ∈ lw_T := lw_T_mem (List.mem_of_getElem? (i := 1227) (by decide +kernel)) (by decide +kernel)
set_option maxRecDepth 100000 in
theorem cx_X5_rackOf : Cond.initialized yX5_rackOf.cls ∈ lw_T := lw_T_mem (List.mem_of_getElem? (i := 51) (by decide +kernel)) (by decide +kernel)
set_option maxRecDepth 100000 in
theorem ct_X5_rackOf : Cond.instanceMethod yX5_rackOf ∈ lw_T := lw_T_mem (List.mem_of_getElem? (i := 1225) (by decide +kernel)) (by decide +kernel)
set_option maxRecDepth 100000 in
theorem cs_X5_rackOf : Cond.selects yX5_rackOf.cls yX5_rackOf yX5_rackOf ∈ lw_T := lw_T_mem (List.mem_of_getElem? (i := 1226) (by decide +kernel)) (by decide +kernel)
set_option maxRecDepth 100000 in
theorem mw_L_135 : Cond.methodLink RL 135 yX5_rackOf ∈ lw_T := lw_T_mem (List.mem_of_getElem? (i := 1224) (by decide +kernel)) (by decide +kernel)
theorem ci_L_135 : CI RL 135 yX5_rackOf cX5_rackOf 3 (some .int) 1 := ⟨mw_L_135, cx_X5_rackOf, cw_X5_rackOf, by decide, by decide, by decide +kernel⟩
set_option maxRecDepth 100000 in
theorem cw_X5_slotOf : Cond.code yX5_slotOf cX5_slotOf 3 (some .int) ∈ lw_T := lw_T_mem (List.mem_of_getElem? (i := 1231) (by decide +kernel)) (by decide +kernel)
set_option maxRecDepth 100000 in
theorem cx_X5_slotOf : Cond.initialized yX5_slotOf.cls ∈ lw_T := lw_T_mem (List.mem_of_getElem? (i := 51) (by decide +kernel)) (by decide +kernel)
set_option maxRecDepth 100000 in
theorem ct_X5_slotOf : Cond.instanceMethod yX5_slotOf ∈ lw_T := lw_T_mem (List.mem_of_getElem? (i := 1229) (by decide +kernel)) (by decide +kernel)
set_option maxRecDepth 100000 in
theorem cs_X5_slotOf : Cond.selects yX5_slotOf.cls yX5_slotOf yX5_slotOf ∈ lw_T := lw_T_mem (List.mem_of_getElem? (i := 1230) (by decide +kernel)) (by decide +kernel)
set_option maxRecDepth 100000 in
theorem mw_L_138 : Cond.methodLink RL 138 yX5_slotOf ∈ lw_T := lw_T_mem (List.mem_of_getElem? (i := 1228) (by decide +kernel)) (by decide +kernel)
theorem ci_L_138 : CI RL 138 yX5_slotOf cX5_slotOf 3 (some .int) 1 := ⟨mw_L_138, cx_X5_slotOf, cw_X5_slotOf, by decide, by decide, by decide +kernel⟩
set_option maxRecDepth 100000 in
theorem cw_X5_isDark : Cond.code yX5_isDark cX5_isDark 3 (some .boolean) ∈ lw_T := lw_T_mem (List.mem_of_getElem? (i := 1235) (by decide +kernel)) (by decide +kernel)
set_option maxRecDepth 100000 in
theorem cx_X5_isDark : Cond.initialized yX5_isDark.cls ∈ lw_T := lw_T_mem (List.mem_of_getElem? (i := 51) (by decide +kernel)) (by decide +kernel)
set_option maxRecDepth 100000 in
theorem ct_X5_isDark : Cond.instanceMethod yX5_isDark ∈ lw_T := lw_T_mem (List.mem_of_getElem? (i := 1233) (by decide +kernel)) (by decide +kernel)
set_option maxRecDepth 100000 in
theorem cs_X5_isDark : Cond.selects yX5_isDark.cls yX5_isDark yX5_isDark ∈ lw_T := lw_T_mem (List.mem_of_getElem? (i := 1234) (by decide +kernel)) (by decide +kernel)
set_option maxRecDepth 100000 in
theorem mw_L_141 : Cond.methodLink RL 141 yX5_isDark ∈ lw_T := lw_T_mem (List.mem_of_getElem? (i := 1232) (by decide +kernel)) (by decide +kernel)
theorem ci_L_141 : CI RL 141 yX5_isDark cX5_isDark 3 (some .boolean) 1 := ⟨mw_L_141, cx_X5_isDark, cw_X5_isDark, by decide, by decide, by decide +kernel⟩
set_option maxRecDepth 100000 in
theorem cw_X5_machineAt : Cond.code yX5_machineAt cX5_machineAt 5 (some .int) ∈ lw_T := lw_T_mem (List.mem_of_getElem? (i := 1239) (by decide +kernel)) (by decide +kernel)
set_option maxRecDepth 100000 in
theorem cx_X5_machineAt : Cond.initialized yX5_machineAt.cls ∈ lw_T := lw_T_mem (List.mem_of_getElem? (i := 51) (by decide +kernel)) (by decide +kernel)
set_option maxRecDepth 100000 in
theorem ct_X5_machineAt : Cond.instanceMethod yX5_machineAt ∈ lw_T := lw_T_mem (List.mem_of_getElem? (i := 1237) (by decide +kernel)) (by decide +kernel)
set_option maxRecDepth 100000 in
theorem cs_X5_machineAt : Cond.selects yX5_machineAt.cls yX5_machineAt yX5_machineAt ∈ lw_T := lw_T_mem (List.mem_of_getElem? (i := 1238) (by decide +kernel)) (by decide +kernel)
set_option maxRecDepth 100000 in
theorem mw_L_144 : Cond.methodLink RL 144 yX5_machineAt ∈ lw_T := lw_T_mem (List.mem_of_getElem? (i := 1236) (by decide +kernel)) (by decide +kernel)
theorem ci_L_144 : CI RL 144 yX5_machineAt cX5_machineAt 5 (some .int) 2 := ⟨mw_L_144, cx_X5_machineAt, cw_X5_machineAt, by decide, by decide, by decide +kernel⟩
set_option maxRecDepth 100000 in
theorem cw_X5_next : Cond.code yX5_next cX5_next 6 (some .int) ∈ lw_T := lw_T_mem (List.mem_of_getElem? (i := 1247) (by decide +kernel)) (by decide +kernel)
set_option maxRecDepth 100000 in
theorem cx_X5_next : Cond.initialized yX5_next.cls ∈ lw_T := lw_T_mem (List.mem_of_getElem? (i := 51) (by decide +kernel)) (by decide +kernel)
set_option maxRecDepth 100000 in
theorem ct_X5_next : Cond.instanceMethod yX5_next ∈ lw_T := lw_T_mem (List.mem_of_getElem? (i := 1245) (by decide +kernel)) (by decide +kernel)
set_option maxRecDepth 100000 in
theorem cs_X5_next : Cond.selects yX5_next.cls yX5_next yX5_next ∈ lw_T := lw_T_mem (List.mem_of_getElem? (i := 1246) (by decide +kernel)) (by decide +kernel)
set_option maxRecDepth 100000 in
theorem mw_L_147 : Cond.methodLink RL 147 yX5_next ∈ lw_T := lw_T_mem (List.mem_of_getElem? (i := 1244) (by decide +kernel)) (by decide +kernel)
theorem ci_L_147 : CI RL 147 yX5_next cX5_next 6 (some .int) 1 := ⟨mw_L_147, cx_X5_next, cw_X5_next, by decide, by decide, by decide +kernel⟩
set_option maxRecDepth 100000 in
theorem cw_X5_powerOf : Cond.code yX5_powerOf cX5_powerOf 5 (some .int) ∈ lw_T := lw_T_mem (List.mem_of_getElem? (i := 1255) (by decide +kernel)) (by decide +kernel)
set_option maxRecDepth 100000 in
theorem cx_X5_powerOf : Cond.initialized yX5_powerOf.cls ∈ lw_T := lw_T_mem (List.mem_of_getElem? (i := 51) (by decide +kernel)) (by decide +kernel)
set_option maxRecDepth 100000 in
theorem ct_X5_powerOf : Cond.instanceMethod yX5_powerOf ∈ lw_T := lw_T_mem (List.mem_of_getElem? (i := 1253) (by decide +kernel)) (by decide +kernel)
set_option maxRecDepth 100000 in
theorem cs_X5_powerOf : Cond.selects yX5_powerOf.cls yX5_powerOf yX5_powerOf ∈ lw_T := lw_T_mem (List.mem_of_getElem? (i := 1254) (by decide +kernel)) (by decide +kernel)
set_option maxRecDepth 100000 in
theorem mw_L_150 : Cond.methodLink RL 150 yX5_powerOf ∈ lw_T := lw_T_mem (List.mem_of_getElem? (i := 1252) (by decide +kernel)) (by decide +kernel)
theorem ci_L_150 : CI RL 150 yX5_powerOf cX5_powerOf 5 (some .int) 2 := ⟨mw_L_150, cx_X5_powerOf, cw_X5_powerOf, by decide, by decide, by decide +kernel⟩
set_option maxRecDepth 100000 in
theorem cw_X5_worstOf : Cond.code yX5_worstOf cX5_worstOf 3 (some .int) ∈ lw_T := lw_T_mem (List.mem_of_getElem? (i := 1263) (by decide +kernel)) (by decide +kernel)
set_option maxRecDepth 100000 in
theorem cx_X5_worstOf : Cond.initialized yX5_worstOf.cls ∈ lw_T := lw_T_mem (List.mem_of_getElem? (i := 51) (by decide +kernel)) (by decide +kernel)
set_option maxRecDepth 100000 in
theorem ct_X5_worstOf : Cond.instanceMethod yX5_worstOf ∈ lw_T := lw_T_mem (List.mem_of_getElem? (i := 1261) (by decide +kernel)) (by decide +kernel)
set_option maxRecDepth 100000 in
theorem cs_X5_worstOf : Cond.selects yX5_worstOf.cls yX5_worstOf yX5_worstOf ∈ lw_T := lw_T_mem (List.mem_of_getElem? (i := 1262) (by decide +kernel)) (by decide +kernel)
set_option maxRecDepth 100000 in
theorem mw_L_153 : Cond.methodLink RL 153 yX5_worstOf ∈ lw_T := lw_T_mem (List.mem_of_getElem? (i := 1260) (by decide +kernel)) (by decide +kernel)
theorem ci_L_153 : CI RL 153 yX5_worstOf cX5_worstOf 3 (some .int) 2 := ⟨mw_L_153, cx_X5_worstOf, cw_X5_worstOf, by decide, by decide, by decide +kernel⟩
set_option maxRecDepth 100000 in
theorem cw_X5_weightOf : Cond.code yX5_weightOf cX5_weightOf 2 (some .int) ∈ lw_T := lw_T_mem (List.mem_of_getElem? (i := 1267) (by decide +kernel)) (by decide +kernel)
set_option maxRecDepth 100000 in
theorem cx_X5_weightOf : Cond.initialized yX5_weightOf.cls ∈ lw_T := lw_T_mem (List.mem_of_getElem? (i := 51) (by decide +kernel)) (by decide +kernel)
set_option maxRecDepth 100000 in
theorem ct_X5_weightOf : Cond.instanceMethod yX5_weightOf ∈ lw_T := lw_T_mem (List.mem_of_getElem? (i := 1265) (by decide +kernel)) (by decide +kernel)
set_option maxRecDepth 100000 in
theorem cs_X5_weightOf : Cond.selects yX5_weightOf.cls yX5_weightOf yX5_weightOf ∈ lw_T := lw_T_mem (List.mem_of_getElem? (i := 1266) (by decide +kernel)) (by decide +kernel)
set_option maxRecDepth 100000 in
theorem mw_L_156 : Cond.methodLink RL 156 yX5_weightOf ∈ lw_T := lw_T_mem (List.mem_of_getElem? (i := 1264) (by decide +kernel)) (by decide +kernel)
theorem ci_L_156 : CI RL 156 yX5_weightOf cX5_weightOf 2 (some .int) 1 := ⟨mw_L_156, cx_X5_weightOf, cw_X5_weightOf, by decide, by decide, by decide +kernel⟩
set_option maxRecDepth 100000 in
theorem cw_X5_heatOf : Cond.code yX5_heatOf cX5_heatOf 4 (some .int) ∈ lw_T := lw_T_mem (List.mem_of_getElem? (i := 1271) (by decide +kernel)) (by decide +kernel)
set_option maxRecDepth 100000 in
theorem cx_X5_heatOf : Cond.initialized yX5_heatOf.cls ∈ lw_T := lw_T_mem (List.mem_of_getElem? (i := 51) (by decide +kernel)) (by decide +kernel)
set_option maxRecDepth 100000 in
theorem ct_X5_heatOf : Cond.instanceMethod yX5_heatOf ∈ lw_T := lw_T_mem (List.mem_of_getElem? (i := 1269) (by decide +kernel)) (by decide +kernel)
set_option maxRecDepth 100000 in
theorem cs_X5_heatOf : Cond.selects yX5_heatOf.cls yX5_heatOf yX5_heatOf ∈ lw_T := lw_T_mem (List.mem_of_getElem? (i := 1270) (by decide +kernel)) (by decide +kernel)
set_option maxRecDepth 100000 in
theorem mw_L_159 : Cond.methodLink RL 159 yX5_heatOf ∈ lw_T := lw_T_mem (List.mem_of_getElem? (i := 1268) (by decide +kernel)) (by decide +kernel)
theorem ci_L_159 : CI RL 159 yX5_heatOf cX5_heatOf 4 (some .int) 1 := ⟨mw_L_159, cx_X5_heatOf, cw_X5_heatOf, by decide, by decide, by decide +kernel⟩
set_option maxRecDepth 100000 in
theorem cw_X5_gap : Cond.code yX5_gap cX5_gap 5 (some .int) ∈ lw_T := lw_T_mem (List.mem_of_getElem? (i := 1275) (by decide +kernel)) (by decide +kernel)
set_option maxRecDepth 100000 in
theorem cx_X5_gap : Cond.initialized yX5_gap.cls ∈ lw_T := lw_T_mem (List.mem_of_getElem? (i := 51) (by decide +kernel)) (by decide +kernel)
set_option maxRecDepth 100000 in
theorem ct_X5_gap : Cond.instanceMethod yX5_gap ∈ lw_T := lw_T_mem (List.mem_of_getElem? (i := 1273) (by decide +kernel)) (by decide +kernel)
set_option maxRecDepth 100000 in
theorem cs_X5_gap : Cond.selects yX5_gap.cls yX5_gap yX5_gap ∈ lw_T := lw_T_mem (List.mem_of_getElem? (i := 1274) (by decide +kernel)) (by decide +kernel)
set_option maxRecDepth 100000 in
theorem mw_L_162 : Cond.methodLink RL 162 yX5_gap ∈ lw_T := lw_T_mem (List.mem_of_getElem? (i := 1272) (by decide +kernel)) (by decide +kernel)
theorem ci_L_162 : CI RL 162 yX5_gap cX5_gap 5 (some .int) 1 := ⟨mw_L_162, cx_X5_gap, cw_X5_gap, by decide, by decide, by decide +kernel⟩
set_option maxRecDepth 100000 in
theorem cw_X5_racksFor : Cond.code yX5_racksFor cX5_racksFor 7 (some .int) ∈ lw_T := lw_T_mem (List.mem_of_getElem? (i := 1279) (by decide +kernel)) (by decide +kernel)
set_option maxRecDepth 100000 in
theorem cx_X5_racksFor : Cond.initialized yX5_racksFor.cls ∈ lw_T := lw_T_mem (List.mem_of_getElem? (i := 51) (by decide +kernel)) (by decide +kernel)
set_option maxRecDepth 100000 in
theorem ct_X5_racksFor : Cond.instanceMethod yX5_racksFor ∈ lw_T := lw_T_mem (List.mem_of_getElem? (i := 1277) (by decide +kernel)) (by decide +kernel)
set_option maxRecDepth 100000 in
theorem cs_X5_racksFor : Cond.selects yX5_racksFor.cls yX5_racksFor yX5_racksFor ∈ lw_T := lw_T_mem (List.mem_of_getElem? (i := 1278) (by decide +kernel)) (by decide +kernel)
set_option maxRecDepth 100000 in
theorem mw_L_165 : Cond.methodLink RL 165 yX5_racksFor ∈ lw_T := lw_T_mem (List.mem_of_getElem? (i := 1276) (by decide +kernel)) (by decide +kernel)
theorem ci_L_165 : CI RL 165 yX5_racksFor cX5_racksFor 7 (some .int) 4 := ⟨mw_L_165, cx_X5_racksFor, cw_X5_racksFor, by decide, by decide, by decide +kernel⟩
set_option maxRecDepth 100000 in
theorem cw_X5_roomFor : Cond.code yX5_roomFor cX5_roomFor 5 (some .int) ∈ lw_T := lw_T_mem (List.mem_of_getElem? (i := 1294) (by decide +kernel)) (by decide +kernel)
set_option maxRecDepth 100000 in
theorem cx_X5_roomFor : Cond.initialized yX5_roomFor.cls ∈ lw_T := lw_T_mem (List.mem_of_getElem? (i := 51) (by decide +kernel)) (by decide +kernel)
set_option maxRecDepth 100000 in
theorem ct_X5_roomFor : Cond.instanceMethod yX5_roomFor ∈ lw_T := lw_T_mem (List.mem_of_getElem? (i := 1292) (by decide +kernel)) (by decide +kernel)
set_option maxRecDepth 100000 in
theorem cs_X5_roomFor : Cond.selects yX5_roomFor.cls yX5_roomFor yX5_roomFor ∈ lw_T := lw_T_mem (List.mem_of_getElem? (i := 1293) (by decide +kernel)) (by decide +kernel)
set_option maxRecDepth 100000 in
theorem mw_L_168 : Cond.methodLink RL 168 yX5_roomFor ∈ lw_T := lw_T_mem (List.mem_of_getElem? (i := 1291) (by decide +kernel)) (by decide +kernel)
theorem ci_L_168 : CI RL 168 yX5_roomFor cX5_roomFor 5 (some .int) 4 := ⟨mw_L_168, cx_X5_roomFor, cw_X5_roomFor, by decide, by decide, by decide +kernel⟩
set_option maxRecDepth 100000 in
theorem cw_X5_roomByCounting : Cond.code yX5_roomByCounting cX5_roomByCounting 9 (some .int) ∈ lw_T := lw_T_mem (List.mem_of_getElem? (i := 1283) (by decide +kernel)) (by decide +kernel)
set_option maxRecDepth 100000 in
theorem cx_X5_roomByCounting : Cond.initialized yX5_roomByCounting.cls ∈ lw_T := lw_T_mem (List.mem_of_getElem? (i := 51) (by decide +kernel)) (by decide +kernel)
set_option maxRecDepth 100000 in
theorem ct_X5_roomByCounting : Cond.instanceMethod yX5_roomByCounting ∈ lw_T := lw_T_mem (List.mem_of_getElem? (i := 1281) (by decide +kernel)) (by decide +kernel)
set_option maxRecDepth 100000 in
theorem cs_X5_roomByCounting : Cond.selects yX5_roomByCounting.cls yX5_roomByCounting yX5_roomByCounting ∈ lw_T := lw_T_mem (List.mem_of_getElem? (i := 1282) (by decide +kernel)) (by decide +kernel)
set_option maxRecDepth 100000 in
theorem mw_L_171 : Cond.methodLink RL 171 yX5_roomByCounting ∈ lw_T := lw_T_mem (List.mem_of_getElem? (i := 1280) (by decide +kernel)) (by decide +kernel)
theorem ci_L_171 : CI RL 171 yX5_roomByCounting cX5_roomByCounting 9 (some .int) 4 := ⟨mw_L_171, cx_X5_roomByCounting, cw_X5_roomByCounting, by decide, by decide, by decide +kernel⟩
set_option maxRecDepth 100000 in
theorem tw_m_X5_1 : Cond.methodLink RX5 1 objectInit ∈ lw_T := lw_T_mem (List.mem_of_getElem? (i := 1046) (by decide +kernel)) (by decide +kernel)
set_option maxRecDepth 100000 in
theorem fw_X5_7 : Cond.fieldLink RX5 7 "RackPlannerModel" "rowOf" "[I" ∈ lw_T := lw_T_mem (List.mem_of_getElem? (i := 1048) (by decide +kernel)) (by decide +kernel)
theorem fd_X5_7_8 : FD RX5 7 8 1 := ⟨RX5, TX5, 21, "RackPlannerModel", rfl, in_X5, by decide, fw_X5_7, (fun s args x _ h => h)⟩
theorem fp_X5_7_8 : FP RX5 7 8 1 (.array .int) true := ⟨RX5, TX5, 21, "RackPlannerModel", tyX5, ⟨rfl, in_X5, by decide, fw_X5_7, (fun s args x _ h => h)⟩, tyX5_ok, nmX5, by decide +kernel, rfl, fun _ => rfl⟩
set_option maxRecDepth 100000 in
theorem fw_X5_13 : Cond.fieldLink RX5 13 "RackPlannerModel" "slots" "[I" ∈ lw_T := lw_T_mem (List.mem_of_getElem? (i := 1049) (by decide +kernel)) (by decide +kernel)
theorem fd_X5_13_8 : FD RX5 13 8 2 := ⟨RX5, TX5, 21, "RackPlannerModel", rfl, in_X5, by decide, fw_X5_13, (fun s args x _ h => h)⟩
theorem fp_X5_13_8 : FP RX5 13 8 2 (.array .int) true := ⟨RX5, TX5, 21, "RackPlannerModel", tyX5, ⟨rfl, in_X5, by decide, fw_X5_13, (fun s args x _ h => h)⟩, tyX5_ok, nmX5, by decide +kernel, rfl, fun _ => rfl⟩
set_option maxRecDepth 100000 in
theorem fw_X5_16 : Cond.fieldLink RX5 16 "RackPlannerModel" "weightLimit" "[I" ∈ lw_T := lw_T_mem (List.mem_of_getElem? (i := 1050) (by decide +kernel)) (by decide +kernel)
theorem fd_X5_16_8 : FD RX5 16 8 3 := ⟨RX5, TX5, 21, "RackPlannerModel", rfl, in_X5, by decide, fw_X5_16, (fun s args x _ h => h)⟩
theorem fp_X5_16_8 : FP RX5 16 8 3 (.array .int) true := ⟨RX5, TX5, 21, "RackPlannerModel", tyX5, ⟨rfl, in_X5, by decide, fw_X5_16, (fun s args x _ h => h)⟩, tyX5_ok, nmX5, by decide +kernel, rfl, fun _ => rfl⟩
set_option maxRecDepth 100000 in
theorem fw_X5_19 : Cond.fieldLink RX5 19 "RackPlannerModel" "powerLimit" "[I" ∈ lw_T := lw_T_mem (List.mem_of_getElem? (i := 1051) (by decide +kernel)) (by decide +kernel)
theorem fd_X5_19_8 : FD RX5 19 8 4 := ⟨RX5, TX5, 21, "RackPlannerModel", rfl, in_X5, by decide, fw_X5_19, (fun s args x _ h => h)⟩
theorem fp_X5_19_8 : FP RX5 19 8 4 (.array .int) true := ⟨RX5, TX5, 21, "RackPlannerModel", tyX5, ⟨rfl, in_X5, by decide, fw_X5_19, (fun s args x _ h => h)⟩, tyX5_ok, nmX5, by decide +kernel, rfl, fun _ => rfl⟩
set_option maxRecDepth 100000 in
theorem fw_X5_22 : Cond.fieldLink RX5 22 "RackPlannerModel" "rowHeat" "[I" ∈ lw_T := lw_T_mem (List.mem_of_getElem? (i := 1053) (by decide +kernel)) (by decide +kernel)
theorem fd_X5_22_8 : FD RX5 22 8 6 := ⟨RX5, TX5, 21, "RackPlannerModel", rfl, in_X5, by decide, fw_X5_22, (fun s args x _ h => h)⟩
theorem fp_X5_22_8 : FP RX5 22 8 6 (.array .int) true := ⟨RX5, TX5, 21, "RackPlannerModel", tyX5, ⟨rfl, in_X5, by decide, fw_X5_22, (fun s args x _ h => h)⟩, tyX5_ok, nmX5, by decide +kernel, rfl, fun _ => rfl⟩
set_option maxRecDepth 100000 in
theorem fw_X5_25 : Cond.fieldLink RX5 25 "RackPlannerModel" "rowWeight" "[I" ∈ lw_T := lw_T_mem (List.mem_of_getElem? (i := 1054) (by decide +kernel)) (by decide +kernel)
theorem fd_X5_25_8 : FD RX5 25 8 7 := ⟨RX5, TX5, 21, "RackPlannerModel", rfl, in_X5, by decide, fw_X5_25, (fun s args x _ h => h)⟩
theorem fp_X5_25_8 : FP RX5 25 8 7 (.array .int) true := ⟨RX5, TX5, 21, "RackPlannerModel", tyX5, ⟨rfl, in_X5, by decide, fw_X5_25, (fun s args x _ h => h)⟩, tyX5_ok, nmX5, by decide +kernel, rfl, fun _ => rfl⟩
set_option maxRecDepth 100000 in
theorem fw_X5_28 : Cond.fieldLink RX5 28 "RackPlannerModel" "feedLimit" "[I" ∈ lw_T := lw_T_mem (List.mem_of_getElem? (i := 1055) (by decide +kernel)) (by decide +kernel)
theorem fd_X5_28_8 : FD RX5 28 8 8 := ⟨RX5, TX5, 21, "RackPlannerModel", rfl, in_X5, by decide, fw_X5_28, (fun s args x _ h => h)⟩
theorem fp_X5_28_8 : FP RX5 28 8 8 (.array .int) true := ⟨RX5, TX5, 21, "RackPlannerModel", tyX5, ⟨rfl, in_X5, by decide, fw_X5_28, (fun s args x _ h => h)⟩, tyX5_ok, nmX5, by decide +kernel, rfl, fun _ => rfl⟩
set_option maxRecDepth 100000 in
theorem fw_X5_31 : Cond.fieldLink RX5 31 "RackPlannerModel" "isOff" "[Z" ∈ lw_T := lw_T_mem (List.mem_of_getElem? (i := 1056) (by decide +kernel)) (by decide +kernel)
theorem fd_X5_31_8 : FD RX5 31 8 9 := ⟨RX5, TX5, 21, "RackPlannerModel", rfl, in_X5, by decide, fw_X5_31, (fun s args x _ h => h)⟩
theorem fp_X5_31_8 : FP RX5 31 8 9 (.array .boolean) true := ⟨RX5, TX5, 21, "RackPlannerModel", tyX5, ⟨rfl, in_X5, by decide, fw_X5_31, (fun s args x _ h => h)⟩, tyX5_ok, nmX5, by decide +kernel, rfl, fun _ => rfl⟩
set_option maxRecDepth 100000 in
theorem fw_X5_35 : Cond.fieldLink RX5 35 "RackPlannerModel" "number" "[I" ∈ lw_T := lw_T_mem (List.mem_of_getElem? (i := 1057) (by decide +kernel)) (by decide +kernel)
theorem fd_X5_35_8 : FD RX5 35 8 10 := ⟨RX5, TX5, 21, "RackPlannerModel", rfl, in_X5, by decide, fw_X5_35, (fun s args x _ h => h)⟩
theorem fp_X5_35_8 : FP RX5 35 8 10 (.array .int) true := ⟨RX5, TX5, 21, "RackPlannerModel", tyX5, ⟨rfl, in_X5, by decide, fw_X5_35, (fun s args x _ h => h)⟩, tyX5_ok, nmX5, by decide +kernel, rfl, fun _ => rfl⟩
set_option maxRecDepth 100000 in
theorem fw_X5_38 : Cond.fieldLink RX5 38 "RackPlannerModel" "size" "[I" ∈ lw_T := lw_T_mem (List.mem_of_getElem? (i := 1058) (by decide +kernel)) (by decide +kernel)
theorem fd_X5_38_8 : FD RX5 38 8 11 := ⟨RX5, TX5, 21, "RackPlannerModel", rfl, in_X5, by decide, fw_X5_38, (fun s args x _ h => h)⟩
theorem fp_X5_38_8 : FP RX5 38 8 11 (.array .int) true := ⟨RX5, TX5, 21, "RackPlannerModel", tyX5, ⟨rfl, in_X5, by decide, fw_X5_38, (fun s args x _ h => h)⟩, tyX5_ok, nmX5, by decide +kernel, rfl, fun _ => rfl⟩
set_option maxRecDepth 100000 in
theorem fw_X5_41 : Cond.fieldLink RX5 41 "RackPlannerModel" "power" "[I" ∈ lw_T := lw_T_mem (List.mem_of_getElem? (i := 1059) (by decide +kernel)) (by decide +kernel)
theorem fd_X5_41_8 : FD RX5 41 8 12 := ⟨RX5, TX5, 21, "RackPlannerModel", rfl, in_X5, by decide, fw_X5_41, (fun s args x _ h => h)⟩
theorem fp_X5_41_8 : FP RX5 41 8 12 (.array .int) true := ⟨RX5, TX5, 21, "RackPlannerModel", tyX5, ⟨rfl, in_X5, by decide, fw_X5_41, (fun s args x _ h => h)⟩, tyX5_ok, nmX5, by decide +kernel, rfl, fun _ => rfl⟩
set_option maxRecDepth 100000 in
theorem fw_X5_44 : Cond.fieldLink RX5 44 "RackPlannerModel" "weight" "[I" ∈ lw_T := lw_T_mem (List.mem_of_getElem? (i := 1060) (by decide +kernel)) (by decide +kernel)
theorem fd_X5_44_8 : FD RX5 44 8 13 := ⟨RX5, TX5, 21, "RackPlannerModel", rfl, in_X5, by decide, fw_X5_44, (fun s args x _ h => h)⟩
theorem fp_X5_44_8 : FP RX5 44 8 13 (.array .int) true := ⟨RX5, TX5, 21, "RackPlannerModel", tyX5, ⟨rfl, in_X5, by decide, fw_X5_44, (fun s args x _ h => h)⟩, tyX5_ok, nmX5, by decide +kernel, rfl, fun _ => rfl⟩
set_option maxRecDepth 100000 in
theorem fw_X5_47 : Cond.fieldLink RX5 47 "RackPlannerModel" "cords" "[I" ∈ lw_T := lw_T_mem (List.mem_of_getElem? (i := 1061) (by decide +kernel)) (by decide +kernel)
theorem fd_X5_47_8 : FD RX5 47 8 14 := ⟨RX5, TX5, 21, "RackPlannerModel", rfl, in_X5, by decide, fw_X5_47, (fun s args x _ h => h)⟩
theorem fp_X5_47_8 : FP RX5 47 8 14 (.array .int) true := ⟨RX5, TX5, 21, "RackPlannerModel", tyX5, ⟨rfl, in_X5, by decide, fw_X5_47, (fun s args x _ h => h)⟩, tyX5_ok, nmX5, by decide +kernel, rfl, fun _ => rfl⟩
set_option maxRecDepth 100000 in
theorem fw_X5_50 : Cond.fieldLink RX5 50 "RackPlannerModel" "rack" "[I" ∈ lw_T := lw_T_mem (List.mem_of_getElem? (i := 1062) (by decide +kernel)) (by decide +kernel)
theorem fd_X5_50_8 : FD RX5 50 8 15 := ⟨RX5, TX5, 21, "RackPlannerModel", rfl, in_X5, by decide, fw_X5_50, (fun s args x _ h => h)⟩
theorem fp_X5_50_8 : FP RX5 50 8 15 (.array .int) true := ⟨RX5, TX5, 21, "RackPlannerModel", tyX5, ⟨rfl, in_X5, by decide, fw_X5_50, (fun s args x _ h => h)⟩, tyX5_ok, nmX5, by decide +kernel, rfl, fun _ => rfl⟩
set_option maxRecDepth 100000 in
theorem fw_X5_53 : Cond.fieldLink RX5 53 "RackPlannerModel" "slot" "[I" ∈ lw_T := lw_T_mem (List.mem_of_getElem? (i := 1063) (by decide +kernel)) (by decide +kernel)
theorem fd_X5_53_8 : FD RX5 53 8 16 := ⟨RX5, TX5, 21, "RackPlannerModel", rfl, in_X5, by decide, fw_X5_53, (fun s args x _ h => h)⟩
theorem fp_X5_53_8 : FP RX5 53 8 16 (.array .int) true := ⟨RX5, TX5, 21, "RackPlannerModel", tyX5, ⟨rfl, in_X5, by decide, fw_X5_53, (fun s args x _ h => h)⟩, tyX5_ok, nmX5, by decide +kernel, rfl, fun _ => rfl⟩
set_option maxRecDepth 100000 in
theorem fw_X5_56 : Cond.fieldLink RX5 56 "RackPlannerModel" "oldRack" "[I" ∈ lw_T := lw_T_mem (List.mem_of_getElem? (i := 1066) (by decide +kernel)) (by decide +kernel)
theorem fd_X5_56_8 : FD RX5 56 8 19 := ⟨RX5, TX5, 21, "RackPlannerModel", rfl, in_X5, by decide, fw_X5_56, (fun s args x _ h => h)⟩
theorem fp_X5_56_8 : FP RX5 56 8 19 (.array .int) true := ⟨RX5, TX5, 21, "RackPlannerModel", tyX5, ⟨rfl, in_X5, by decide, fw_X5_56, (fun s args x _ h => h)⟩, tyX5_ok, nmX5, by decide +kernel, rfl, fun _ => rfl⟩
set_option maxRecDepth 100000 in
theorem fw_X5_59 : Cond.fieldLink RX5 59 "RackPlannerModel" "oldSlot" "[I" ∈ lw_T := lw_T_mem (List.mem_of_getElem? (i := 1067) (by decide +kernel)) (by decide +kernel)
theorem fd_X5_59_8 : FD RX5 59 8 20 := ⟨RX5, TX5, 21, "RackPlannerModel", rfl, in_X5, by decide, fw_X5_59, (fun s args x _ h => h)⟩
theorem fp_X5_59_8 : FP RX5 59 8 20 (.array .int) true := ⟨RX5, TX5, 21, "RackPlannerModel", tyX5, ⟨rfl, in_X5, by decide, fw_X5_59, (fun s args x _ h => h)⟩, tyX5_ok, nmX5, by decide +kernel, rfl, fun _ => rfl⟩
set_option maxRecDepth 100000 in
theorem fw_X5_62 : Cond.fieldLink RX5 62 "RackPlannerModel" "thrown" "I" ∈ lw_T := lw_T_mem (List.mem_of_getElem? (i := 1047) (by decide +kernel)) (by decide +kernel)
theorem fd_X5_62_8 : FD RX5 62 8 0 := ⟨RX5, TX5, 21, "RackPlannerModel", rfl, in_X5, by decide, fw_X5_62, (fun s args x _ h => h)⟩
theorem fp_X5_62_8 : FP RX5 62 8 0 .int false := ⟨RX5, TX5, 21, "RackPlannerModel", tyX5, ⟨rfl, in_X5, by decide, fw_X5_62, (fun s args x _ h => h)⟩, tyX5_ok, nmX5, by decide +kernel, rfl, fun h => by cases h⟩
set_option maxRecDepth 100000 in
theorem fw_X5_66 : Cond.fieldLink RX5 66 "RackPlannerModel" "racks" "I" ∈ lw_T := lw_T_mem (List.mem_of_getElem? (i := 1052) (by decide +kernel)) (by decide +kernel)
theorem fd_X5_66_8 : FD RX5 66 8 5 := ⟨RX5, TX5, 21, "RackPlannerModel", rfl, in_X5, by decide, fw_X5_66, (fun s args x _ h => h)⟩
theorem fp_X5_66_8 : FP RX5 66 8 5 .int false := ⟨RX5, TX5, 21, "RackPlannerModel", tyX5, ⟨rfl, in_X5, by decide, fw_X5_66, (fun s args x _ h => h)⟩, tyX5_ok, nmX5, by decide +kernel, rfl, fun h => by cases h⟩
set_option maxRecDepth 100000 in
theorem cw_X5_isIn : Cond.code yX5_isIn cX5_isIn 3 (some .boolean) ∈ lw_T := lw_T_mem (List.mem_of_getElem? (i := 1121) (by decide +kernel)) (by decide +kernel)
set_option maxRecDepth 100000 in
theorem cx_X5_isIn : Cond.initialized yX5_isIn.cls ∈ lw_T := lw_T_mem (List.mem_of_getElem? (i := 51) (by decide +kernel)) (by decide +kernel)
set_option maxRecDepth 100000 in
theorem ct_X5_isIn : Cond.static yX5_isIn ∈ lw_T := lw_T_mem (List.mem_of_getElem? (i := 1120) (by decide +kernel)) (by decide +kernel)
set_option maxRecDepth 100000 in
theorem mw_X5_69 : Cond.methodLink RX5 69 yX5_isIn ∈ lw_T := lw_T_mem (List.mem_of_getElem? (i := 1119) (by decide +kernel)) (by decide +kernel)
theorem ci_X5_69 : CI RX5 69 yX5_isIn cX5_isIn 3 (some .boolean) 3 := ⟨mw_X5_69, cx_X5_isIn, cw_X5_isIn, by decide, by decide, by decide +kernel⟩
set_option maxRecDepth 100000 in
theorem fw_X5_73 : Cond.fieldLink RX5 73 "RackPlannerModel" "machines" "I" ∈ lw_T := lw_T_mem (List.mem_of_getElem? (i := 1064) (by decide +kernel)) (by decide +kernel)
theorem fd_X5_73_8 : FD RX5 73 8 17 := ⟨RX5, TX5, 21, "RackPlannerModel", rfl, in_X5, by decide, fw_X5_73, (fun s args x _ h => h)⟩
theorem fp_X5_73_8 : FP RX5 73 8 17 .int false := ⟨RX5, TX5, 21, "RackPlannerModel", tyX5, ⟨rfl, in_X5, by decide, fw_X5_73, (fun s args x _ h => h)⟩, tyX5_ok, nmX5, by decide +kernel, rfl, fun h => by cases h⟩
set_option maxRecDepth 100000 in
theorem cw_X5_isCorded : Cond.code yX5_isCorded cX5_isCorded 2 (some .boolean) ∈ lw_T := lw_T_mem (List.mem_of_getElem? (i := 1152) (by decide +kernel)) (by decide +kernel)
set_option maxRecDepth 100000 in
theorem cx_X5_isCorded : Cond.initialized yX5_isCorded.cls ∈ lw_T := lw_T_mem (List.mem_of_getElem? (i := 51) (by decide +kernel)) (by decide +kernel)
set_option maxRecDepth 100000 in
theorem ct_X5_isCorded : Cond.static yX5_isCorded ∈ lw_T := lw_T_mem (List.mem_of_getElem? (i := 1151) (by decide +kernel)) (by decide +kernel)
set_option maxRecDepth 100000 in
theorem mw_X5_76 : Cond.methodLink RX5 76 yX5_isCorded ∈ lw_T := lw_T_mem (List.mem_of_getElem? (i := 1150) (by decide +kernel)) (by decide +kernel)
theorem ci_X5_76 : CI RX5 76 yX5_isCorded cX5_isCorded 2 (some .boolean) 2 := ⟨mw_X5_76, cx_X5_isCorded, cw_X5_isCorded, by decide, by decide, by decide +kernel⟩
set_option maxRecDepth 100000 in
theorem cw_X5_weighs : Cond.code yX5_weighs cX5_weighs 4 (some .int) ∈ lw_T := lw_T_mem (List.mem_of_getElem? (i := 1141) (by decide +kernel)) (by decide +kernel)
set_option maxRecDepth 100000 in
theorem cx_X5_weighs : Cond.initialized yX5_weighs.cls ∈ lw_T := lw_T_mem (List.mem_of_getElem? (i := 51) (by decide +kernel)) (by decide +kernel)
set_option maxRecDepth 100000 in
theorem ct_X5_weighs : Cond.instanceMethod yX5_weighs ∈ lw_T := lw_T_mem (List.mem_of_getElem? (i := 1140) (by decide +kernel)) (by decide +kernel)
set_option maxRecDepth 100000 in
theorem cs_X5_weighs : Cond.selects yX5_weighs.cls yX5_weighs yX5_weighs ∈ lw_T := lw_T_mem (List.mem_of_getElem? (i := 28) (by decide +kernel)) (by decide +kernel)
set_option maxRecDepth 100000 in
theorem mw_X5_80 : Cond.methodLink RX5 80 yX5_weighs ∈ lw_T := lw_T_mem (List.mem_of_getElem? (i := 1138) (by decide +kernel)) (by decide +kernel)
theorem ci_X5_80 : CI RX5 80 yX5_weighs cX5_weighs 4 (some .int) 1 := ⟨mw_X5_80, cx_X5_weighs, cw_X5_weighs, by decide, by decide, by decide +kernel⟩
set_option maxRecDepth 100000 in
theorem cw_X5_isFine : Cond.code yX5_isFine cX5_isFine 2 (some .boolean) ∈ lw_T := lw_T_mem (List.mem_of_getElem? (i := 1125) (by decide +kernel)) (by decide +kernel)
set_option maxRecDepth 100000 in
theorem cx_X5_isFine : Cond.initialized yX5_isFine.cls ∈ lw_T := lw_T_mem (List.mem_of_getElem? (i := 51) (by decide +kernel)) (by decide +kernel)
set_option maxRecDepth 100000 in
theorem ct_X5_isFine : Cond.instanceMethod yX5_isFine ∈ lw_T := lw_T_mem (List.mem_of_getElem? (i := 1124) (by decide +kernel)) (by decide +kernel)
set_option maxRecDepth 100000 in
theorem cs_X5_isFine : Cond.selects yX5_isFine.cls yX5_isFine yX5_isFine ∈ lw_T := lw_T_mem (List.mem_of_getElem? (i := 25) (by decide +kernel)) (by decide +kernel)
set_option maxRecDepth 100000 in
theorem mw_X5_84 : Cond.methodLink RX5 84 yX5_isFine ∈ lw_T := lw_T_mem (List.mem_of_getElem? (i := 1122) (by decide +kernel)) (by decide +kernel)
theorem ci_X5_84 : CI RX5 84 yX5_isFine cX5_isFine 2 (some .boolean) 1 := ⟨mw_X5_84, cx_X5_isFine, cw_X5_isFine, by decide, by decide, by decide +kernel⟩
set_option maxRecDepth 100000 in
theorem cw_X5_rowHeats : Cond.code yX5_rowHeats cX5_rowHeats 4 (some .int) ∈ lw_T := lw_T_mem (List.mem_of_getElem? (i := 1133) (by decide +kernel)) (by decide +kernel)
set_option maxRecDepth 100000 in
theorem cx_X5_rowHeats : Cond.initialized yX5_rowHeats.cls ∈ lw_T := lw_T_mem (List.mem_of_getElem? (i := 51) (by decide +kernel)) (by decide +kernel)
set_option maxRecDepth 100000 in
theorem ct_X5_rowHeats : Cond.instanceMethod yX5_rowHeats ∈ lw_T := lw_T_mem (List.mem_of_getElem? (i := 1132) (by decide +kernel)) (by decide +kernel)
set_option maxRecDepth 100000 in
theorem cs_X5_rowHeats : Cond.selects yX5_rowHeats.cls yX5_rowHeats yX5_rowHeats ∈ lw_T := lw_T_mem (List.mem_of_getElem? (i := 26) (by decide +kernel)) (by decide +kernel)
set_option maxRecDepth 100000 in
theorem mw_X5_88 : Cond.methodLink RX5 88 yX5_rowHeats ∈ lw_T := lw_T_mem (List.mem_of_getElem? (i := 1130) (by decide +kernel)) (by decide +kernel)
theorem ci_X5_88 : CI RX5 88 yX5_rowHeats cX5_rowHeats 4 (some .int) 1 := ⟨mw_X5_88, cx_X5_rowHeats, cw_X5_rowHeats, by decide, by decide, by decide +kernel⟩
set_option maxRecDepth 100000 in
theorem cw_X5_rowWeighs : Cond.code yX5_rowWeighs cX5_rowWeighs 4 (some .int) ∈ lw_T := lw_T_mem (List.mem_of_getElem? (i := 1137) (by decide +kernel)) (by decide +kernel)
set_option maxRecDepth 100000 in
theorem cx_X5_rowWeighs : Cond.initialized yX5_rowWeighs.cls ∈ lw_T := lw_T_mem (List.mem_of_getElem? (i := 51) (by decide +kernel)) (by decide +kernel)
set_option maxRecDepth 100000 in
theorem ct_X5_rowWeighs : Cond.instanceMethod yX5_rowWeighs ∈ lw_T := lw_T_mem (List.mem_of_getElem? (i := 1136) (by decide +kernel)) (by decide +kernel)
set_option maxRecDepth 100000 in
theorem cs_X5_rowWeighs : Cond.selects yX5_rowWeighs.cls yX5_rowWeighs yX5_rowWeighs ∈ lw_T := lw_T_mem (List.mem_of_getElem? (i := 27) (by decide +kernel)) (by decide +kernel)
set_option maxRecDepth 100000 in
theorem mw_X5_91 : Cond.methodLink RX5 91 yX5_rowWeighs ∈ lw_T := lw_T_mem (List.mem_of_getElem? (i := 1134) (by decide +kernel)) (by decide +kernel)
theorem ci_X5_91 : CI RX5 91 yX5_rowWeighs cX5_rowWeighs 4 (some .int) 1 := ⟨mw_X5_91, cx_X5_rowWeighs, cw_X5_rowWeighs, by decide, by decide, by decide +kernel⟩
set_option maxRecDepth 100000 in
theorem cw_X5_worst : Cond.code yX5_worst cX5_worst 6 (some .int) ∈ lw_T := lw_T_mem (List.mem_of_getElem? (i := 1149) (by decide +kernel)) (by decide +kernel)
set_option maxRecDepth 100000 in
theorem cx_X5_worst : Cond.initialized yX5_worst.cls ∈ lw_T := lw_T_mem (List.mem_of_getElem? (i := 51) (by decide +kernel)) (by decide +kernel)
set_option maxRecDepth 100000 in
theorem ct_X5_worst : Cond.instanceMethod yX5_worst ∈ lw_T := lw_T_mem (List.mem_of_getElem? (i := 1148) (by decide +kernel)) (by decide +kernel)
set_option maxRecDepth 100000 in
theorem cs_X5_worst : Cond.selects yX5_worst.cls yX5_worst yX5_worst ∈ lw_T := lw_T_mem (List.mem_of_getElem? (i := 29) (by decide +kernel)) (by decide +kernel)
set_option maxRecDepth 100000 in
theorem mw_X5_94 : Cond.methodLink RX5 94 yX5_worst ∈ lw_T := lw_T_mem (List.mem_of_getElem? (i := 1146) (by decide +kernel)) (by decide +kernel)
theorem ci_X5_94 : CI RX5 94 yX5_worst cX5_worst 6 (some .int) 2 := ⟨mw_X5_94, cx_X5_worst, cw_X5_worst, by decide, by decide, by decide +kernel⟩
set_option maxRecDepth 100000 in
theorem cw_X5_isDarkAt : Cond.code yX5_isDarkAt cX5_isDarkAt 2 (some .boolean) ∈ lw_T := lw_T_mem (List.mem_of_getElem? (i := 1160) (by decide +kernel)) (by decide +kernel)
set_option maxRecDepth 100000 in
theorem cx_X5_isDarkAt : Cond.initialized yX5_isDarkAt.cls ∈ lw_T := lw_T_mem (List.mem_of_getElem? (i := 51) (by decide +kernel)) (by decide +kernel)
set_option maxRecDepth 100000 in
theorem ct_X5_isDarkAt : Cond.instanceMethod yX5_isDarkAt ∈ lw_T := lw_T_mem (List.mem_of_getElem? (i := 1159) (by decide +kernel)) (by decide +kernel)
set_option maxRecDepth 100000 in
theorem cs_X5_isDarkAt : Cond.selects yX5_isDarkAt.cls yX5_isDarkAt yX5_isDarkAt ∈ lw_T := lw_T_mem (List.mem_of_getElem? (i := 30) (by decide +kernel)) (by decide +kernel)
set_option maxRecDepth 100000 in
theorem mw_X5_98 : Cond.methodLink RX5 98 yX5_isDarkAt ∈ lw_T := lw_T_mem (List.mem_of_getElem? (i := 1157) (by decide +kernel)) (by decide +kernel)
theorem ci_X5_98 : CI RX5 98 yX5_isDarkAt cX5_isDarkAt 2 (some .boolean) 1 := ⟨mw_X5_98, cx_X5_isDarkAt, cw_X5_isDarkAt, by decide, by decide, by decide +kernel⟩
set_option maxRecDepth 100000 in
theorem cw_X5_inSlot : Cond.code yX5_inSlot cX5_inSlot 4 (some .int) ∈ lw_T := lw_T_mem (List.mem_of_getElem? (i := 1195) (by decide +kernel)) (by decide +kernel)
set_option maxRecDepth 100000 in
theorem cx_X5_inSlot : Cond.initialized yX5_inSlot.cls ∈ lw_T := lw_T_mem (List.mem_of_getElem? (i := 51) (by decide +kernel)) (by decide +kernel)
set_option maxRecDepth 100000 in
theorem ct_X5_inSlot : Cond.instanceMethod yX5_inSlot ∈ lw_T := lw_T_mem (List.mem_of_getElem? (i := 1194) (by decide +kernel)) (by decide +kernel)
set_option maxRecDepth 100000 in
theorem cs_X5_inSlot : Cond.selects yX5_inSlot.cls yX5_inSlot yX5_inSlot ∈ lw_T := lw_T_mem (List.mem_of_getElem? (i := 35) (by decide +kernel)) (by decide +kernel)
set_option maxRecDepth 100000 in
theorem mw_X5_101 : Cond.methodLink RX5 101 yX5_inSlot ∈ lw_T := lw_T_mem (List.mem_of_getElem? (i := 1192) (by decide +kernel)) (by decide +kernel)
theorem ci_X5_101 : CI RX5 101 yX5_inSlot cX5_inSlot 4 (some .int) 2 := ⟨mw_X5_101, cx_X5_inSlot, cw_X5_inSlot, by decide, by decide, by decide +kernel⟩
set_option maxRecDepth 100000 in
theorem cw_X5_isBorne : Cond.code yX5_isBorne cX5_isBorne 9 (some .boolean) ∈ lw_T := lw_T_mem (List.mem_of_getElem? (i := 1187) (by decide +kernel)) (by decide +kernel)
set_option maxRecDepth 100000 in
theorem cx_X5_isBorne : Cond.initialized yX5_isBorne.cls ∈ lw_T := lw_T_mem (List.mem_of_getElem? (i := 51) (by decide +kernel)) (by decide +kernel)
set_option maxRecDepth 100000 in
theorem ct_X5_isBorne : Cond.instanceMethod yX5_isBorne ∈ lw_T := lw_T_mem (List.mem_of_getElem? (i := 1186) (by decide +kernel)) (by decide +kernel)
set_option maxRecDepth 100000 in
theorem cs_X5_isBorne : Cond.selects yX5_isBorne.cls yX5_isBorne yX5_isBorne ∈ lw_T := lw_T_mem (List.mem_of_getElem? (i := 33) (by decide +kernel)) (by decide +kernel)
set_option maxRecDepth 100000 in
theorem mw_X5_104 : Cond.methodLink RX5 104 yX5_isBorne ∈ lw_T := lw_T_mem (List.mem_of_getElem? (i := 1184) (by decide +kernel)) (by decide +kernel)
theorem ci_X5_104 : CI RX5 104 yX5_isBorne cX5_isBorne 9 (some .boolean) 4 := ⟨mw_X5_104, cx_X5_isBorne, cw_X5_isBorne, by decide, by decide, by decide +kernel⟩
set_option maxRecDepth 100000 in
theorem cw_X5_isFree : Cond.code yX5_isFree cX5_isFree 6 (some .boolean) ∈ lw_T := lw_T_mem (List.mem_of_getElem? (i := 1191) (by decide +kernel)) (by decide +kernel)
set_option maxRecDepth 100000 in
theorem cx_X5_isFree : Cond.initialized yX5_isFree.cls ∈ lw_T := lw_T_mem (List.mem_of_getElem? (i := 51) (by decide +kernel)) (by decide +kernel)
set_option maxRecDepth 100000 in
theorem ct_X5_isFree : Cond.instanceMethod yX5_isFree ∈ lw_T := lw_T_mem (List.mem_of_getElem? (i := 1190) (by decide +kernel)) (by decide +kernel)
set_option maxRecDepth 100000 in
theorem cs_X5_isFree : Cond.selects yX5_isFree.cls yX5_isFree yX5_isFree ∈ lw_T := lw_T_mem (List.mem_of_getElem? (i := 34) (by decide +kernel)) (by decide +kernel)
set_option maxRecDepth 100000 in
theorem mw_X5_108 : Cond.methodLink RX5 108 yX5_isFree ∈ lw_T := lw_T_mem (List.mem_of_getElem? (i := 1188) (by decide +kernel)) (by decide +kernel)
theorem ci_X5_108 : CI RX5 108 yX5_isFree cX5_isFree 6 (some .boolean) 3 := ⟨mw_X5_108, cx_X5_isFree, cw_X5_isFree, by decide, by decide, by decide +kernel⟩
set_option maxRecDepth 100000 in
theorem cw_X5_slotIn : Cond.code yX5_slotIn cX5_slotIn 7 (some .int) ∈ lw_T := lw_T_mem (List.mem_of_getElem? (i := 1183) (by decide +kernel)) (by decide +kernel)
set_option maxRecDepth 100000 in
theorem cx_X5_slotIn : Cond.initialized yX5_slotIn.cls ∈ lw_T := lw_T_mem (List.mem_of_getElem? (i := 51) (by decide +kernel)) (by decide +kernel)
set_option maxRecDepth 100000 in
theorem ct_X5_slotIn : Cond.instanceMethod yX5_slotIn ∈ lw_T := lw_T_mem (List.mem_of_getElem? (i := 1182) (by decide +kernel)) (by decide +kernel)
set_option maxRecDepth 100000 in
theorem cs_X5_slotIn : Cond.selects yX5_slotIn.cls yX5_slotIn yX5_slotIn ∈ lw_T := lw_T_mem (List.mem_of_getElem? (i := 32) (by decide +kernel)) (by decide +kernel)
set_option maxRecDepth 100000 in
theorem mw_X5_111 : Cond.methodLink RX5 111 yX5_slotIn ∈ lw_T := lw_T_mem (List.mem_of_getElem? (i := 1180) (by decide +kernel)) (by decide +kernel)
theorem ci_X5_111 : CI RX5 111 yX5_slotIn cX5_slotIn 7 (some .int) 5 := ⟨mw_X5_111, cx_X5_slotIn, cw_X5_slotIn, by decide, by decide, by decide +kernel⟩
set_option maxRecDepth 100000 in
theorem cw_X5_isKind : Cond.code yX5_isKind cX5_isKind 4 (some .boolean) ∈ lw_T := lw_T_mem (List.mem_of_getElem? (i := 1175) (by decide +kernel)) (by decide +kernel)
set_option maxRecDepth 100000 in
theorem cx_X5_isKind : Cond.initialized yX5_isKind.cls ∈ lw_T := lw_T_mem (List.mem_of_getElem? (i := 51) (by decide +kernel)) (by decide +kernel)
set_option maxRecDepth 100000 in
theorem ct_X5_isKind : Cond.static yX5_isKind ∈ lw_T := lw_T_mem (List.mem_of_getElem? (i := 1174) (by decide +kernel)) (by decide +kernel)
set_option maxRecDepth 100000 in
theorem mw_X5_115 : Cond.methodLink RX5 115 yX5_isKind ∈ lw_T := lw_T_mem (List.mem_of_getElem? (i := 1173) (by decide +kernel)) (by decide +kernel)
theorem ci_X5_115 : CI RX5 115 yX5_isKind cX5_isKind 4 (some .boolean) 4 := ⟨mw_X5_115, cx_X5_isKind, cw_X5_isKind, by decide, by decide, by decide +kernel⟩
set_option maxRecDepth 100000 in
theorem fw_X5_118 : Cond.fieldLink RX5 118 "RackPlannerModel" "given" "I" ∈ lw_T := lw_T_mem (List.mem_of_getElem? (i := 1065) (by decide +kernel)) (by decide +kernel)
theorem fd_X5_118_8 : FD RX5 118 8 18 := ⟨RX5, TX5, 21, "RackPlannerModel", rfl, in_X5, by decide, fw_X5_118, (fun s args x _ h => h)⟩
theorem fp_X5_118_8 : FP RX5 118 8 18 .int false := ⟨RX5, TX5, 21, "RackPlannerModel", tyX5, ⟨rfl, in_X5, by decide, fw_X5_118, (fun s args x _ h => h)⟩, tyX5_ok, nmX5, by decide +kernel, rfl, fun h => by cases h⟩
set_option maxRecDepth 100000 in
theorem cw_X5_puts : Cond.code yX5_puts cX5_puts 4 (some .int) ∈ lw_T := lw_T_mem (List.mem_of_getElem? (i := 1179) (by decide +kernel)) (by decide +kernel)
set_option maxRecDepth 100000 in
theorem cx_X5_puts : Cond.initialized yX5_puts.cls ∈ lw_T := lw_T_mem (List.mem_of_getElem? (i := 51) (by decide +kernel)) (by decide +kernel)
set_option maxRecDepth 100000 in
theorem ct_X5_puts : Cond.instanceMethod yX5_puts ∈ lw_T := lw_T_mem (List.mem_of_getElem? (i := 1178) (by decide +kernel)) (by decide +kernel)
set_option maxRecDepth 100000 in
theorem cs_X5_puts : Cond.selects yX5_puts.cls yX5_puts yX5_puts ∈ lw_T := lw_T_mem (List.mem_of_getElem? (i := 31) (by decide +kernel)) (by decide +kernel)
set_option maxRecDepth 100000 in
theorem mw_X5_121 : Cond.methodLink RX5 121 yX5_puts ∈ lw_T := lw_T_mem (List.mem_of_getElem? (i := 1176) (by decide +kernel)) (by decide +kernel)
theorem ci_X5_121 : CI RX5 121 yX5_puts cX5_puts 4 (some .int) 1 := ⟨mw_X5_121, cx_X5_puts, cw_X5_puts, by decide, by decide, by decide +kernel⟩
set_option maxRecDepth 100000 in
theorem cw_X5_find : Cond.code yX5_find cX5_find 3 (some .int) ∈ lw_T := lw_T_mem (List.mem_of_getElem? (i := 1203) (by decide +kernel)) (by decide +kernel)
set_option maxRecDepth 100000 in
theorem cx_X5_find : Cond.initialized yX5_find.cls ∈ lw_T := lw_T_mem (List.mem_of_getElem? (i := 51) (by decide +kernel)) (by decide +kernel)
set_option maxRecDepth 100000 in
theorem ct_X5_find : Cond.instanceMethod yX5_find ∈ lw_T := lw_T_mem (List.mem_of_getElem? (i := 1202) (by decide +kernel)) (by decide +kernel)
set_option maxRecDepth 100000 in
theorem cs_X5_find : Cond.selects yX5_find.cls yX5_find yX5_find ∈ lw_T := lw_T_mem (List.mem_of_getElem? (i := 36) (by decide +kernel)) (by decide +kernel)
set_option maxRecDepth 100000 in
theorem mw_X5_124 : Cond.methodLink RX5 124 yX5_find ∈ lw_T := lw_T_mem (List.mem_of_getElem? (i := 1200) (by decide +kernel)) (by decide +kernel)
theorem ci_X5_124 : CI RX5 124 yX5_find cX5_find 3 (some .int) 1 := ⟨mw_X5_124, cx_X5_find, cw_X5_find, by decide, by decide, by decide +kernel⟩
set_option maxRecDepth 100000 in
theorem cw_X5_isAhead : Cond.code yX5_isAhead cX5_isAhead 3 (some .boolean) ∈ lw_T := lw_T_mem (List.mem_of_getElem? (i := 1219) (by decide +kernel)) (by decide +kernel)
set_option maxRecDepth 100000 in
theorem cx_X5_isAhead : Cond.initialized yX5_isAhead.cls ∈ lw_T := lw_T_mem (List.mem_of_getElem? (i := 51) (by decide +kernel)) (by decide +kernel)
set_option maxRecDepth 100000 in
theorem ct_X5_isAhead : Cond.instanceMethod yX5_isAhead ∈ lw_T := lw_T_mem (List.mem_of_getElem? (i := 1218) (by decide +kernel)) (by decide +kernel)
set_option maxRecDepth 100000 in
theorem cs_X5_isAhead : Cond.selects yX5_isAhead.cls yX5_isAhead yX5_isAhead ∈ lw_T := lw_T_mem (List.mem_of_getElem? (i := 38) (by decide +kernel)) (by decide +kernel)
set_option maxRecDepth 100000 in
theorem mw_X5_127 : Cond.methodLink RX5 127 yX5_isAhead ∈ lw_T := lw_T_mem (List.mem_of_getElem? (i := 1216) (by decide +kernel)) (by decide +kernel)
theorem ci_X5_127 : CI RX5 127 yX5_isAhead cX5_isAhead 3 (some .boolean) 2 := ⟨mw_X5_127, cx_X5_isAhead, cw_X5_isAhead, by decide, by decide, by decide +kernel⟩
set_option maxRecDepth 100000 in
theorem cw_X5_nextToPack : Cond.code yX5_nextToPack cX5_nextToPack 3 (some .int) ∈ lw_T := lw_T_mem (List.mem_of_getElem? (i := 1215) (by decide +kernel)) (by decide +kernel)
set_option maxRecDepth 100000 in
theorem cx_X5_nextToPack : Cond.initialized yX5_nextToPack.cls ∈ lw_T := lw_T_mem (List.mem_of_getElem? (i := 51) (by decide +kernel)) (by decide +kernel)
set_option maxRecDepth 100000 in
theorem ct_X5_nextToPack : Cond.instanceMethod yX5_nextToPack ∈ lw_T := lw_T_mem (List.mem_of_getElem? (i := 1214) (by decide +kernel)) (by decide +kernel)
set_option maxRecDepth 100000 in
theorem cs_X5_nextToPack : Cond.selects yX5_nextToPack.cls yX5_nextToPack yX5_nextToPack ∈ lw_T := lw_T_mem (List.mem_of_getElem? (i := 37) (by decide +kernel)) (by decide +kernel)
set_option maxRecDepth 100000 in
theorem mw_X5_130 : Cond.methodLink RX5 130 yX5_nextToPack ∈ lw_T := lw_T_mem (List.mem_of_getElem? (i := 1212) (by decide +kernel)) (by decide +kernel)
theorem ci_X5_130 : CI RX5 130 yX5_nextToPack cX5_nextToPack 3 (some .int) 0 := ⟨mw_X5_130, cx_X5_nextToPack, cw_X5_nextToPack, by decide, by decide, by decide +kernel⟩
set_option maxRecDepth 100000 in
theorem cw_X5_isRack : Cond.code yX5_isRack cX5_isRack 2 (some .boolean) ∈ lw_T := lw_T_mem (List.mem_of_getElem? (i := 1243) (by decide +kernel)) (by decide +kernel)
set_option maxRecDepth 100000 in
theorem cx_X5_isRack : Cond.initialized yX5_isRack.cls ∈ lw_T := lw_T_mem (List.mem_of_getElem? (i := 51) (by decide +kernel)) (by decide +kernel)
set_option maxRecDepth 100000 in
theorem ct_X5_isRack : Cond.instanceMethod yX5_isRack ∈ lw_T := lw_T_mem (List.mem_of_getElem? (i := 1242) (by decide +kernel)) (by decide +kernel)
set_option maxRecDepth 100000 in
theorem cs_X5_isRack : Cond.selects yX5_isRack.cls yX5_isRack yX5_isRack ∈ lw_T := lw_T_mem (List.mem_of_getElem? (i := 39) (by decide +kernel)) (by decide +kernel)
set_option maxRecDepth 100000 in
theorem mw_X5_134 : Cond.methodLink RX5 134 yX5_isRack ∈ lw_T := lw_T_mem (List.mem_of_getElem? (i := 1240) (by decide +kernel)) (by decide +kernel)
theorem ci_X5_134 : CI RX5 134 yX5_isRack cX5_isRack 2 (some .boolean) 1 := ⟨mw_X5_134, cx_X5_isRack, cw_X5_isRack, by decide, by decide, by decide +kernel⟩
set_option maxRecDepth 100000 in
theorem cw_X5_way : Cond.code yX5_way cX5_way 2 (some .int) ∈ lw_T := lw_T_mem (List.mem_of_getElem? (i := 1251) (by decide +kernel)) (by decide +kernel)
set_option maxRecDepth 100000 in
theorem cx_X5_way : Cond.initialized yX5_way.cls ∈ lw_T := lw_T_mem (List.mem_of_getElem? (i := 51) (by decide +kernel)) (by decide +kernel)
set_option maxRecDepth 100000 in
theorem ct_X5_way : Cond.instanceMethod yX5_way ∈ lw_T := lw_T_mem (List.mem_of_getElem? (i := 1250) (by decide +kernel)) (by decide +kernel)
set_option maxRecDepth 100000 in
theorem cs_X5_way : Cond.selects yX5_way.cls yX5_way yX5_way ∈ lw_T := lw_T_mem (List.mem_of_getElem? (i := 40) (by decide +kernel)) (by decide +kernel)
set_option maxRecDepth 100000 in
theorem mw_X5_137 : Cond.methodLink RX5 137 yX5_way ∈ lw_T := lw_T_mem (List.mem_of_getElem? (i := 1248) (by decide +kernel)) (by decide +kernel)
theorem ci_X5_137 : CI RX5 137 yX5_way cX5_way 2 (some .int) 1 := ⟨mw_X5_137, cx_X5_way, cw_X5_way, by decide, by decide, by decide +kernel⟩
set_option maxRecDepth 100000 in
theorem cw_X5_takes : Cond.code yX5_takes cX5_takes 4 (some .int) ∈ lw_T := lw_T_mem (List.mem_of_getElem? (i := 1259) (by decide +kernel)) (by decide +kernel)
set_option maxRecDepth 100000 in
theorem cx_X5_takes : Cond.initialized yX5_takes.cls ∈ lw_T := lw_T_mem (List.mem_of_getElem? (i := 51) (by decide +kernel)) (by decide +kernel)
set_option maxRecDepth 100000 in
theorem ct_X5_takes : Cond.instanceMethod yX5_takes ∈ lw_T := lw_T_mem (List.mem_of_getElem? (i := 1258) (by decide +kernel)) (by decide +kernel)
set_option maxRecDepth 100000 in
theorem cs_X5_takes : Cond.selects yX5_takes.cls yX5_takes yX5_takes ∈ lw_T := lw_T_mem (List.mem_of_getElem? (i := 41) (by decide +kernel)) (by decide +kernel)
set_option maxRecDepth 100000 in
theorem mw_X5_140 : Cond.methodLink RX5 140 yX5_takes ∈ lw_T := lw_T_mem (List.mem_of_getElem? (i := 1256) (by decide +kernel)) (by decide +kernel)
theorem ci_X5_140 : CI RX5 140 yX5_takes cX5_takes 4 (some .int) 2 := ⟨mw_X5_140, cx_X5_takes, cw_X5_takes, by decide, by decide, by decide +kernel⟩
set_option maxRecDepth 100000 in
theorem cw_X5_within : Cond.code yX5_within cX5_within 3 (some .int) ∈ lw_T := lw_T_mem (List.mem_of_getElem? (i := 1290) (by decide +kernel)) (by decide +kernel)
set_option maxRecDepth 100000 in
theorem cx_X5_within : Cond.initialized yX5_within.cls ∈ lw_T := lw_T_mem (List.mem_of_getElem? (i := 51) (by decide +kernel)) (by decide +kernel)
set_option maxRecDepth 100000 in
theorem ct_X5_within : Cond.static yX5_within ∈ lw_T := lw_T_mem (List.mem_of_getElem? (i := 1289) (by decide +kernel)) (by decide +kernel)
set_option maxRecDepth 100000 in
theorem mw_X5_143 : Cond.methodLink RX5 143 yX5_within ∈ lw_T := lw_T_mem (List.mem_of_getElem? (i := 1288) (by decide +kernel)) (by decide +kernel)
theorem ci_X5_143 : CI RX5 143 yX5_within cX5_within 3 (some .int) 3 := ⟨mw_X5_143, cx_X5_within, cw_X5_within, by decide, by decide, by decide +kernel⟩
set_option maxRecDepth 100000 in
theorem cw_X5_roomIn : Cond.code yX5_roomIn cX5_roomIn 9 (some .int) ∈ lw_T := lw_T_mem (List.mem_of_getElem? (i := 1287) (by decide +kernel)) (by decide +kernel)
set_option maxRecDepth 100000 in
theorem cx_X5_roomIn : Cond.initialized yX5_roomIn.cls ∈ lw_T := lw_T_mem (List.mem_of_getElem? (i := 51) (by decide +kernel)) (by decide +kernel)
set_option maxRecDepth 100000 in
theorem ct_X5_roomIn : Cond.instanceMethod yX5_roomIn ∈ lw_T := lw_T_mem (List.mem_of_getElem? (i := 1286) (by decide +kernel)) (by decide +kernel)
set_option maxRecDepth 100000 in
theorem cs_X5_roomIn : Cond.selects yX5_roomIn.cls yX5_roomIn yX5_roomIn ∈ lw_T := lw_T_mem (List.mem_of_getElem? (i := 42) (by decide +kernel)) (by decide +kernel)
set_option maxRecDepth 100000 in
theorem mw_X5_147 : Cond.methodLink RX5 147 yX5_roomIn ∈ lw_T := lw_T_mem (List.mem_of_getElem? (i := 1284) (by decide +kernel)) (by decide +kernel)
theorem ci_X5_147 : CI RX5 147 yX5_roomIn cX5_roomIn 9 (some .int) 5 := ⟨mw_X5_147, cx_X5_roomIn, cw_X5_roomIn, by decide, by decide, by decide +kernel⟩
set_option maxRecDepth 100000 in
theorem mw_X5_150 : Cond.methodLink RX5 150 yX5_roomByCounting ∈ lw_T := lw_T_mem (List.mem_of_getElem? (i := 1295) (by decide +kernel)) (by decide +kernel)
theorem ci_X5_150 : CI RX5 150 yX5_roomByCounting cX5_roomByCounting 9 (some .int) 4 := ⟨mw_X5_150, cx_X5_roomByCounting, cw_X5_roomByCounting, by decide, by decide, by decide +kernel⟩
set_option maxRecDepth 100000 in
theorem tw_m_Jxa1e45_1 : Cond.methodLink RJxa1e45 1 objectInit ∈ lw_T := lw_T_mem (List.mem_of_getElem? (i := 97) (by decide +kernel)) (by decide +kernel)
set_option maxRecDepth 100000 in
theorem cw_Jxa1e45_init_da8c8 : Cond.code yJxa1e45_init_da8c8 cJxa1e45_init_da8c8 1 none ∈ lw_T := lw_T_mem (List.mem_of_getElem? (i := 96) (by decide +kernel)) (by decide +kernel)
set_option maxRecDepth 100000 in
theorem cx_Jxa1e45_init_da8c8 : Cond.initialized yJxa1e45_init_da8c8.cls ∈ lw_T := lw_T_mem (List.mem_of_getElem? (i := 46) (by decide +kernel)) (by decide +kernel)
set_option maxRecDepth 100000 in
theorem ct_Jxa1e45_init_da8c8 : Cond.instanceMethod yJxa1e45_init_da8c8 ∈ lw_T := lw_T_mem (List.mem_of_getElem? (i := 95) (by decide +kernel)) (by decide +kernel)
set_option maxRecDepth 100000 in
theorem mw_Jxc12de_1 : Cond.methodLink RJxc12de 1 yJxa1e45_init_da8c8 ∈ lw_T := lw_T_mem (List.mem_of_getElem? (i := 94) (by decide +kernel)) (by decide +kernel)
theorem ci_Jxc12de_1 : CI RJxc12de 1 yJxa1e45_init_da8c8 cJxa1e45_init_da8c8 1 none 0 := ⟨mw_Jxc12de_1, cx_Jxa1e45_init_da8c8, cw_Jxa1e45_init_da8c8, by decide, by decide, by decide +kernel⟩
set_option maxRecDepth 100000 in
theorem fw_Jxc12de_7 : Cond.fieldLink RJxc12de 7 "java/util/AbstractList" "modCount" "I" ∈ lw_T := lw_T_mem (List.mem_of_getElem? (i := 102) (by decide +kernel)) (by decide +kernel)
theorem fd_Jxc12de_7_2 : FD RJxc12de 7 2 0 := ⟨RJx4a65c, TJx4a65c, 3, "java/util/AbstractList", rfl, in_Jx4a65c, by decide, fw_Jxc12de_7, (fun s args x _ h => h)⟩
theorem fp_Jxc12de_7_2 : FP RJxc12de 7 2 0 .int false := ⟨RJx4a65c, TJx4a65c, 3, "java/util/AbstractList", tyJx4a65c, ⟨rfl, in_Jx4a65c, by decide, fw_Jxc12de_7, (fun s args x _ h => h)⟩, tyJx4a65c_ok, nmJx4a65c, by decide +kernel, rfl, fun h => by cases h⟩
set_option maxRecDepth 100000 in
theorem cw_Jxc12de_init_da8c8 : Cond.code yJxc12de_init_da8c8 cJxc12de_init_da8c8 1 none ∈ lw_T := lw_T_mem (List.mem_of_getElem? (i := 93) (by decide +kernel)) (by decide +kernel)
set_option maxRecDepth 100000 in
theorem cx_Jxc12de_init_da8c8 : Cond.initialized yJxc12de_init_da8c8.cls ∈ lw_T := lw_T_mem (List.mem_of_getElem? (i := 47) (by decide +kernel)) (by decide +kernel)
set_option maxRecDepth 100000 in
theorem ct_Jxc12de_init_da8c8 : Cond.instanceMethod yJxc12de_init_da8c8 ∈ lw_T := lw_T_mem (List.mem_of_getElem? (i := 92) (by decide +kernel)) (by decide +kernel)
set_option maxRecDepth 100000 in
theorem mw_Jx4a65c_1 : Cond.methodLink RJx4a65c 1 yJxc12de_init_da8c8 ∈ lw_T := lw_T_mem (List.mem_of_getElem? (i := 91) (by decide +kernel)) (by decide +kernel)
theorem ci_Jx4a65c_1 : CI RJx4a65c 1 yJxc12de_init_da8c8 cJxc12de_init_da8c8 1 none 0 := ⟨mw_Jx4a65c_1, cx_Jxc12de_init_da8c8, cw_Jxc12de_init_da8c8, by decide, by decide, by decide +kernel⟩
set_option maxRecDepth 100000 in
theorem tk_Jx4a65c_7 : Cond.classLink RJx4a65c 7 "java/lang/Object" ∈ lw_T := lw_T_mem (List.mem_of_getElem? (i := 602) (by decide +kernel)) (by decide +kernel)
set_option maxRecDepth 100000 in
theorem fw_Jx4a65c_9 : Cond.fieldLink RJx4a65c 9 "java/util/ArrayList" "elementData" "[Ljava/lang/Object;" ∈ lw_T := lw_T_mem (List.mem_of_getElem? (i := 100) (by decide +kernel)) (by decide +kernel)
theorem fd_Jx4a65c_9_2 : FD RJx4a65c 9 2 1 := ⟨RJx4a65c, TJx4a65c, 3, "java/util/ArrayList", rfl, in_Jx4a65c, by decide, fw_Jx4a65c_9, (fun s args x _ h => h)⟩
theorem fp_Jx4a65c_9_2 : FP RJx4a65c 9 2 1 (.array (.object "java/lang/Object")) false := ⟨RJx4a65c, TJx4a65c, 3, "java/util/ArrayList", tyJx4a65c, ⟨rfl, in_Jx4a65c, by decide, fw_Jx4a65c_9, (fun s args x _ h => h)⟩, tyJx4a65c_ok, nmJx4a65c, by decide +kernel, rfl, fun h => by cases h⟩
set_option maxRecDepth 100000 in
theorem tk_Jx4a65c_20 : Cond.classLink RJx4a65c 20 "java/lang/StringBuilder" ∈ lw_T := lw_T_mem (List.mem_of_getElem? (i := 282) (by decide +kernel)) (by decide +kernel)
set_option maxRecDepth 100000 in
theorem cw_J4_init_da8c8 : Cond.code yJ4_init_da8c8 cJ4_init_da8c8 1 none ∈ lw_T := lw_T_mem (List.mem_of_getElem? (i := 286) (by decide +kernel)) (by decide +kernel)
set_option maxRecDepth 100000 in
theorem cx_J4_init_da8c8 : Cond.initialized yJ4_init_da8c8.cls ∈ lw_T := lw_T_mem (List.mem_of_getElem? (i := 66) (by decide +kernel)) (by decide +kernel)
set_option maxRecDepth 100000 in
theorem ct_J4_init_da8c8 : Cond.instanceMethod yJ4_init_da8c8 ∈ lw_T := lw_T_mem (List.mem_of_getElem? (i := 285) (by decide +kernel)) (by decide +kernel)
set_option maxRecDepth 100000 in
theorem mw_Jx4a65c_22 : Cond.methodLink RJx4a65c 22 yJ4_init_da8c8 ∈ lw_T := lw_T_mem (List.mem_of_getElem? (i := 284) (by decide +kernel)) (by decide +kernel)
theorem ci_Jx4a65c_22 : CI RJx4a65c 22 yJ4_init_da8c8 cJ4_init_da8c8 1 none 0 := ⟨mw_Jx4a65c_22, cx_J4_init_da8c8, cw_J4_init_da8c8, by decide, by decide, by decide +kernel⟩
set_option maxRecDepth 100000 in
theorem cw_J4_append_15ec4 : Cond.code yJ4_append_15ec4 cJ4_append_15ec4 2 (some (.object "java/lang/StringBuilder")) ∈ lw_T := lw_T_mem (List.mem_of_getElem? (i := 318) (by decide +kernel)) (by decide +kernel)
set_option maxRecDepth 100000 in
theorem cx_J4_append_15ec4 : Cond.initialized yJ4_append_15ec4.cls ∈ lw_T := lw_T_mem (List.mem_of_getElem? (i := 66) (by decide +kernel)) (by decide +kernel)
set_option maxRecDepth 100000 in
theorem ct_J4_append_15ec4 : Cond.instanceMethod yJ4_append_15ec4 ∈ lw_T := lw_T_mem (List.mem_of_getElem? (i := 316) (by decide +kernel)) (by decide +kernel)
set_option maxRecDepth 100000 in
theorem cs_J4_append_15ec4 : Cond.selects yJ4_append_15ec4.cls yJ4_append_15ec4 yJ4_append_15ec4 ∈ lw_T := lw_T_mem (List.mem_of_getElem? (i := 317) (by decide +kernel)) (by decide +kernel)
set_option maxRecDepth 100000 in
theorem mw_Jx4a65c_25 : Cond.methodLink RJx4a65c 25 yJ4_append_15ec4 ∈ lw_T := lw_T_mem (List.mem_of_getElem? (i := 315) (by decide +kernel)) (by decide +kernel)
theorem ci_Jx4a65c_25 : CI RJx4a65c 25 yJ4_append_15ec4 cJ4_append_15ec4 2 (some (.object "java/lang/StringBuilder")) 1 := ⟨mw_Jx4a65c_25, cx_J4_append_15ec4, cw_J4_append_15ec4, by decide, by decide, by decide +kernel⟩
set_option maxRecDepth 100000 in
theorem cw_J4_append_bf812 : Cond.code yJ4_append_bf812 cJ4_append_bf812 2 (some (.object "java/lang/StringBuilder")) ∈ lw_T := lw_T_mem (List.mem_of_getElem? (i := 438) (by decide +kernel)) (by decide +kernel)
set_option maxRecDepth 100000 in
theorem cx_J4_append_bf812 : Cond.initialized yJ4_append_bf812.cls ∈ lw_T := lw_T_mem (List.mem_of_getElem? (i := 66) (by decide +kernel)) (by decide +kernel)
set_option maxRecDepth 100000 in
theorem ct_J4_append_bf812 : Cond.instanceMethod yJ4_append_bf812 ∈ lw_T := lw_T_mem (List.mem_of_getElem? (i := 436) (by decide +kernel)) (by decide +kernel)
set_option maxRecDepth 100000 in
theorem cs_J4_append_bf812 : Cond.selects yJ4_append_bf812.cls yJ4_append_bf812 yJ4_append_bf812 ∈ lw_T := lw_T_mem (List.mem_of_getElem? (i := 437) (by decide +kernel)) (by decide +kernel)
set_option maxRecDepth 100000 in
theorem mw_Jx4a65c_29 : Cond.methodLink RJx4a65c 29 yJ4_append_bf812 ∈ lw_T := lw_T_mem (List.mem_of_getElem? (i := 435) (by decide +kernel)) (by decide +kernel)
theorem ci_Jx4a65c_29 : CI RJx4a65c 29 yJ4_append_bf812 cJ4_append_bf812 2 (some (.object "java/lang/StringBuilder")) 1 := ⟨mw_Jx4a65c_29, cx_J4_append_bf812, cw_J4_append_bf812, by decide, by decide, by decide +kernel⟩
set_option maxRecDepth 100000 in
theorem cw_J4_toString_0e30d : Cond.code yJ4_toString_0e30d cJ4_toString_0e30d 1 (some (.object "java/lang/String")) ∈ lw_T := lw_T_mem (List.mem_of_getElem? (i := 464) (by decide +kernel)) (by decide +kernel)
set_option maxRecDepth 100000 in
theorem cx_J4_toString_0e30d : Cond.initialized yJ4_toString_0e30d.cls ∈ lw_T := lw_T_mem (List.mem_of_getElem? (i := 66) (by decide +kernel)) (by decide +kernel)
set_option maxRecDepth 100000 in
theorem ct_J4_toString_0e30d : Cond.instanceMethod yJ4_toString_0e30d ∈ lw_T := lw_T_mem (List.mem_of_getElem? (i := 462) (by decide +kernel)) (by decide +kernel)
set_option maxRecDepth 100000 in
theorem cs_J4_toString_0e30d : Cond.selects yJ4_toString_0e30d.cls yJ4_toString_0e30d yJ4_toString_0e30d ∈ lw_T := lw_T_mem (List.mem_of_getElem? (i := 463) (by decide +kernel)) (by decide +kernel)
set_option maxRecDepth 100000 in
theorem mw_Jx4a65c_32 : Cond.methodLink RJx4a65c 32 yJ4_toString_0e30d ∈ lw_T := lw_T_mem (List.mem_of_getElem? (i := 461) (by decide +kernel)) (by decide +kernel)
theorem ci_Jx4a65c_32 : CI RJx4a65c 32 yJ4_toString_0e30d cJ4_toString_0e30d 1 (some (.object "java/lang/String")) 0 := ⟨mw_Jx4a65c_32, cx_J4_toString_0e30d, cw_J4_toString_0e30d, by decide, by decide, by decide +kernel⟩
set_option maxRecDepth 100000 in
theorem fw_Jx4a65c_39 : Cond.fieldLink RJx4a65c 39 "java/util/ArrayList" "DEFAULTCAPACITY_EMPTY_ELEMENTDATA" "[Ljava/lang/Object;" ∈ lw_T := lw_T_mem (List.mem_of_getElem? (i := 98) (by decide +kernel)) (by decide +kernel)
set_option maxRecDepth 100000 in
theorem fw_Jx4a65c_48 : Cond.fieldLink RJx4a65c 48 "java/util/ArrayList" "size" "I" ∈ lw_T := lw_T_mem (List.mem_of_getElem? (i := 101) (by decide +kernel)) (by decide +kernel)
theorem fd_Jx4a65c_48_2 : FD RJx4a65c 48 2 2 := ⟨RJx4a65c, TJx4a65c, 3, "java/util/ArrayList", rfl, in_Jx4a65c, by decide, fw_Jx4a65c_48, (fun s args x _ h => h)⟩
theorem fp_Jx4a65c_48_2 : FP RJx4a65c 48 2 2 .int false := ⟨RJx4a65c, TJx4a65c, 3, "java/util/ArrayList", tyJx4a65c, ⟨rfl, in_Jx4a65c, by decide, fw_Jx4a65c_48, (fun s args x _ h => h)⟩, tyJx4a65c_ok, nmJx4a65c, by decide +kernel, rfl, fun h => by cases h⟩
set_option maxRecDepth 100000 in
theorem fw_Jx4a65c_63 : Cond.fieldLink RJx4a65c 63 "java/util/ArrayList" "modCount" "I" ∈ lw_T := lw_T_mem (List.mem_of_getElem? (i := 103) (by decide +kernel)) (by decide +kernel)
theorem fd_Jx4a65c_63_2 : FD RJx4a65c 63 2 0 := ⟨RJx4a65c, TJx4a65c, 3, "java/util/ArrayList", rfl, in_Jx4a65c, by decide, fw_Jx4a65c_63, same_mc⟩
theorem fp_Jx4a65c_63_2 : FP RJx4a65c 63 2 0 .int false := ⟨RJx4a65c, TJx4a65c, 3, "java/util/ArrayList", tyJx4a65c, ⟨rfl, in_Jx4a65c, by decide, fw_Jx4a65c_63, same_mc⟩, tyJx4a65c_ok, nmJx4a65c, by decide +kernel, rfl, fun h => by cases h⟩
set_option maxRecDepth 100000 in
theorem cw_J7_copyOf_1904c : Cond.code yJ7_copyOf_1904c cJ7_copyOf_1904c 2 (some (.array (.object "java/lang/Object"))) ∈ lw_T := lw_T_mem (List.mem_of_getElem? (i := 578) (by decide +kernel)) (by decide +kernel)
set_option maxRecDepth 100000 in
theorem cx_J7_copyOf_1904c : Cond.initialized yJ7_copyOf_1904c.cls ∈ lw_T := lw_T_mem (List.mem_of_getElem? (i := 49) (by decide +kernel)) (by decide +kernel)
set_option maxRecDepth 100000 in
theorem ct_J7_copyOf_1904c : Cond.static yJ7_copyOf_1904c ∈ lw_T := lw_T_mem (List.mem_of_getElem? (i := 577) (by decide +kernel)) (by decide +kernel)
set_option maxRecDepth 100000 in
theorem mw_Jx4a65c_66 : Cond.methodLink RJx4a65c 66 yJ7_copyOf_1904c ∈ lw_T := lw_T_mem (List.mem_of_getElem? (i := 576) (by decide +kernel)) (by decide +kernel)
theorem ci_Jx4a65c_66 : CI RJx4a65c 66 yJ7_copyOf_1904c cJ7_copyOf_1904c 2 (some (.array (.object "java/lang/Object"))) 2 := ⟨mw_Jx4a65c_66, cx_J7_copyOf_1904c, cw_J7_copyOf_1904c, by decide, by decide, by decide +kernel⟩
set_option maxRecDepth 100000 in
theorem cw_Jx4a65c_grow_92f84 : Cond.code yJx4a65c_grow_92f84 cJx4a65c_grow_92f84 4 (some (.array (.object "java/lang/Object"))) ∈ lw_T := lw_T_mem (List.mem_of_getElem? (i := 574) (by decide +kernel)) (by decide +kernel)
set_option maxRecDepth 100000 in
theorem cx_Jx4a65c_grow_92f84 : Cond.initialized yJx4a65c_grow_92f84.cls ∈ lw_T := lw_T_mem (List.mem_of_getElem? (i := 48) (by decide +kernel)) (by decide +kernel)
set_option maxRecDepth 100000 in
theorem ct_Jx4a65c_grow_92f84 : Cond.instanceMethod yJx4a65c_grow_92f84 ∈ lw_T := lw_T_mem (List.mem_of_getElem? (i := 573) (by decide +kernel)) (by decide +kernel)
set_option maxRecDepth 100000 in
theorem cs_Jx4a65c_grow_92f84 : Cond.selects yJx4a65c_grow_92f84.cls yJx4a65c_grow_92f84 yJx4a65c_grow_92f84 ∈ lw_T := lw_T_mem (List.mem_of_getElem? (i := 5) (by decide +kernel)) (by decide +kernel)
set_option maxRecDepth 100000 in
theorem mw_Jx4a65c_69 : Cond.methodLink RJx4a65c 69 yJx4a65c_grow_92f84 ∈ lw_T := lw_T_mem (List.mem_of_getElem? (i := 571) (by decide +kernel)) (by decide +kernel)
theorem ci_Jx4a65c_69 : CI RJx4a65c 69 yJx4a65c_grow_92f84 cJx4a65c_grow_92f84 4 (some (.array (.object "java/lang/Object"))) 1 := ⟨mw_Jx4a65c_69, cx_Jx4a65c_grow_92f84, cw_Jx4a65c_grow_92f84, by decide, by decide, by decide +kernel⟩
set_option maxRecDepth 100000 in
theorem cw_J8_newLength_cabcc : Cond.code yJ8_newLength_cabcc cJ8_newLength_cabcc 4 (some .int) ∈ lw_T := lw_T_mem (List.mem_of_getElem? (i := 336) (by decide +kernel)) (by decide +kernel)
set_option maxRecDepth 100000 in
theorem cx_J8_newLength_cabcc : Cond.initialized yJ8_newLength_cabcc.cls ∈ lw_T := lw_T_mem (List.mem_of_getElem? (i := 58) (by decide +kernel)) (by decide +kernel)
set_option maxRecDepth 100000 in
theorem ct_J8_newLength_cabcc : Cond.static yJ8_newLength_cabcc ∈ lw_T := lw_T_mem (List.mem_of_getElem? (i := 335) (by decide +kernel)) (by decide +kernel)
set_option maxRecDepth 100000 in
theorem mw_Jx4a65c_73 : Cond.methodLink RJx4a65c 73 yJ8_newLength_cabcc ∈ lw_T := lw_T_mem (List.mem_of_getElem? (i := 575) (by decide +kernel)) (by decide +kernel)
theorem ci_Jx4a65c_73 : CI RJx4a65c 73 yJ8_newLength_cabcc cJ8_newLength_cabcc 4 (some .int) 3 := ⟨mw_Jx4a65c_73, cx_J8_newLength_cabcc, cw_J8_newLength_cabcc, by decide, by decide, by decide +kernel⟩
set_option maxRecDepth 100000 in
theorem mw_Jx4a65c_79 : Cond.methodLink RJx4a65c 79 yJ9_max_7cf53 ∈ lw_T := lw_T_mem (List.mem_of_getElem? (i := 601) (by decide +kernel)) (by decide +kernel)
theorem ci_Jx4a65c_79 : CI RJx4a65c 79 yJ9_max_7cf53 cJ9_max_7cf53 2 (some .int) 2 := ⟨mw_Jx4a65c_79, cx_J9_max_7cf53, cw_J9_max_7cf53, by decide, by decide, by decide +kernel⟩
set_option maxRecDepth 100000 in
theorem cw_J15_checkIndex_7cf53 : Cond.code yJ15_checkIndex_7cf53 cJ15_checkIndex_7cf53 2 (some .int) ∈ lw_T := lw_T_mem (List.mem_of_getElem? (i := 216) (by decide +kernel)) (by decide +kernel)
set_option maxRecDepth 100000 in
theorem cx_J15_checkIndex_7cf53 : Cond.initialized yJ15_checkIndex_7cf53.cls ∈ lw_T := lw_T_mem (List.mem_of_getElem? (i := 61) (by decide +kernel)) (by decide +kernel)
set_option maxRecDepth 100000 in
theorem ct_J15_checkIndex_7cf53 : Cond.static yJ15_checkIndex_7cf53 ∈ lw_T := lw_T_mem (List.mem_of_getElem? (i := 215) (by decide +kernel)) (by decide +kernel)
set_option maxRecDepth 100000 in
theorem mw_Jx4a65c_118 : Cond.methodLink RJx4a65c 118 yJ15_checkIndex_7cf53 ∈ lw_T := lw_T_mem (List.mem_of_getElem? (i := 214) (by decide +kernel)) (by decide +kernel)
theorem ci_Jx4a65c_118 : CI RJx4a65c 118 yJ15_checkIndex_7cf53 cJ15_checkIndex_7cf53 2 (some .int) 2 := ⟨mw_Jx4a65c_118, cx_J15_checkIndex_7cf53, cw_J15_checkIndex_7cf53, by decide, by decide, by decide +kernel⟩
set_option maxRecDepth 100000 in
theorem cw_Jx4a65c_elementData_915e3 : Cond.code yJx4a65c_elementData_915e3 cJx4a65c_elementData_915e3 2 (some (.object "java/lang/Object")) ∈ lw_T := lw_T_mem (List.mem_of_getElem? (i := 223) (by decide +kernel)) (by decide +kernel)
set_option maxRecDepth 100000 in
theorem cx_Jx4a65c_elementData_915e3 : Cond.initialized yJx4a65c_elementData_915e3.cls ∈ lw_T := lw_T_mem (List.mem_of_getElem? (i := 48) (by decide +kernel)) (by decide +kernel)
set_option maxRecDepth 100000 in
theorem ct_Jx4a65c_elementData_915e3 : Cond.instanceMethod yJx4a65c_elementData_915e3 ∈ lw_T := lw_T_mem (List.mem_of_getElem? (i := 221) (by decide +kernel)) (by decide +kernel)
set_option maxRecDepth 100000 in
theorem cs_Jx4a65c_elementData_915e3 : Cond.selects yJx4a65c_elementData_915e3.cls yJx4a65c_elementData_915e3 yJx4a65c_elementData_915e3 ∈ lw_T := lw_T_mem (List.mem_of_getElem? (i := 222) (by decide +kernel)) (by decide +kernel)
set_option maxRecDepth 100000 in
theorem mw_Jx4a65c_123 : Cond.methodLink RJx4a65c 123 yJx4a65c_elementData_915e3 ∈ lw_T := lw_T_mem (List.mem_of_getElem? (i := 220) (by decide +kernel)) (by decide +kernel)
theorem ci_Jx4a65c_123 : CI RJx4a65c 123 yJx4a65c_elementData_915e3 cJx4a65c_elementData_915e3 2 (some (.object "java/lang/Object")) 1 := ⟨mw_Jx4a65c_123, cx_Jx4a65c_elementData_915e3, cw_Jx4a65c_elementData_915e3, by decide, by decide, by decide +kernel⟩
set_option maxRecDepth 100000 in
theorem cw_Jx4a65c_grow_d5877 : Cond.code yJx4a65c_grow_d5877 cJx4a65c_grow_d5877 1 (some (.array (.object "java/lang/Object"))) ∈ lw_T := lw_T_mem (List.mem_of_getElem? (i := 570) (by decide +kernel)) (by decide +kernel)
set_option maxRecDepth 100000 in
theorem cx_Jx4a65c_grow_d5877 : Cond.initialized yJx4a65c_grow_d5877.cls ∈ lw_T := lw_T_mem (List.mem_of_getElem? (i := 48) (by decide +kernel)) (by decide +kernel)
set_option maxRecDepth 100000 in
theorem ct_Jx4a65c_grow_d5877 : Cond.instanceMethod yJx4a65c_grow_d5877 ∈ lw_T := lw_T_mem (List.mem_of_getElem? (i := 569) (by decide +kernel)) (by decide +kernel)
set_option maxRecDepth 100000 in
theorem cs_Jx4a65c_grow_d5877 : Cond.selects yJx4a65c_grow_d5877.cls yJx4a65c_grow_d5877 yJx4a65c_grow_d5877 ∈ lw_T := lw_T_mem (List.mem_of_getElem? (i := 4) (by decide +kernel)) (by decide +kernel)
set_option maxRecDepth 100000 in
theorem mw_Jx4a65c_129 : Cond.methodLink RJx4a65c 129 yJx4a65c_grow_d5877 ∈ lw_T := lw_T_mem (List.mem_of_getElem? (i := 567) (by decide +kernel)) (by decide +kernel)
theorem ci_Jx4a65c_129 : CI RJx4a65c 129 yJx4a65c_grow_d5877 cJx4a65c_grow_d5877 1 (some (.array (.object "java/lang/Object"))) 0 := ⟨mw_Jx4a65c_129, cx_Jx4a65c_grow_d5877, cw_Jx4a65c_grow_d5877, by decide, by decide, by decide +kernel⟩
set_option maxRecDepth 100000 in
theorem cw_Jx4a65c_add_72be8 : Cond.code yJx4a65c_add_72be8 cJx4a65c_add_72be8 4 none ∈ lw_T := lw_T_mem (List.mem_of_getElem? (i := 751) (by decide +kernel)) (by decide +kernel)
set_option maxRecDepth 100000 in
theorem cx_Jx4a65c_add_72be8 : Cond.initialized yJx4a65c_add_72be8.cls ∈ lw_T := lw_T_mem (List.mem_of_getElem? (i := 48) (by decide +kernel)) (by decide +kernel)
set_option maxRecDepth 100000 in
theorem ct_Jx4a65c_add_72be8 : Cond.instanceMethod yJx4a65c_add_72be8 ∈ lw_T := lw_T_mem (List.mem_of_getElem? (i := 750) (by decide +kernel)) (by decide +kernel)
set_option maxRecDepth 100000 in
theorem cs_Jx4a65c_add_72be8 : Cond.selects yJx4a65c_add_72be8.cls yJx4a65c_add_72be8 yJx4a65c_add_72be8 ∈ lw_T := lw_T_mem (List.mem_of_getElem? (i := 14) (by decide +kernel)) (by decide +kernel)
set_option maxRecDepth 100000 in
theorem mw_Jx4a65c_131 : Cond.methodLink RJx4a65c 131 yJx4a65c_add_72be8 ∈ lw_T := lw_T_mem (List.mem_of_getElem? (i := 748) (by decide +kernel)) (by decide +kernel)
theorem ci_Jx4a65c_131 : CI RJx4a65c 131 yJx4a65c_add_72be8 cJx4a65c_add_72be8 4 none 3 := ⟨mw_Jx4a65c_131, cx_Jx4a65c_add_72be8, cw_Jx4a65c_add_72be8, by decide, by decide, by decide +kernel⟩
set_option maxRecDepth 100000 in
theorem cw_Jx4a65c_rangeCheckForAdd_d00df : Cond.code yJx4a65c_rangeCheckForAdd_d00df cJx4a65c_rangeCheckForAdd_d00df 2 none ∈ lw_T := lw_T_mem (List.mem_of_getElem? (i := 236) (by decide +kernel)) (by decide +kernel)
set_option maxRecDepth 100000 in
theorem cx_Jx4a65c_rangeCheckForAdd_d00df : Cond.initialized yJx4a65c_rangeCheckForAdd_d00df.cls ∈ lw_T := lw_T_mem (List.mem_of_getElem? (i := 48) (by decide +kernel)) (by decide +kernel)
set_option maxRecDepth 100000 in
theorem ct_Jx4a65c_rangeCheckForAdd_d00df : Cond.instanceMethod yJx4a65c_rangeCheckForAdd_d00df ∈ lw_T := lw_T_mem (List.mem_of_getElem? (i := 235) (by decide +kernel)) (by decide +kernel)
set_option maxRecDepth 100000 in
theorem cs_Jx4a65c_rangeCheckForAdd_d00df : Cond.selects yJx4a65c_rangeCheckForAdd_d00df.cls yJx4a65c_rangeCheckForAdd_d00df yJx4a65c_rangeCheckForAdd_d00df ∈ lw_T := lw_T_mem (List.mem_of_getElem? (i := 1) (by decide +kernel)) (by decide +kernel)
set_option maxRecDepth 100000 in
theorem mw_Jx4a65c_135 : Cond.methodLink RJx4a65c 135 yJx4a65c_rangeCheckForAdd_d00df ∈ lw_T := lw_T_mem (List.mem_of_getElem? (i := 233) (by decide +kernel)) (by decide +kernel)
theorem ci_Jx4a65c_135 : CI RJx4a65c 135 yJx4a65c_rangeCheckForAdd_d00df cJx4a65c_rangeCheckForAdd_d00df 2 none 1 := ⟨mw_Jx4a65c_135, cx_Jx4a65c_rangeCheckForAdd_d00df, cw_Jx4a65c_rangeCheckForAdd_d00df, by decide, by decide, by decide +kernel⟩
set_option maxRecDepth 100000 in
theorem cw_Jx4a65c_fastRemove_b59b0 : Cond.code yJx4a65c_fastRemove_b59b0 cJx4a65c_fastRemove_b59b0 4 none ∈ lw_T := lw_T_mem (List.mem_of_getElem? (i := 874) (by decide +kernel)) (by decide +kernel)
set_option maxRecDepth 100000 in
theorem cx_Jx4a65c_fastRemove_b59b0 : Cond.initialized yJx4a65c_fastRemove_b59b0.cls ∈ lw_T := lw_T_mem (List.mem_of_getElem? (i := 48) (by decide +kernel)) (by decide +kernel)
set_option maxRecDepth 100000 in
theorem ct_Jx4a65c_fastRemove_b59b0 : Cond.instanceMethod yJx4a65c_fastRemove_b59b0 ∈ lw_T := lw_T_mem (List.mem_of_getElem? (i := 873) (by decide +kernel)) (by decide +kernel)
set_option maxRecDepth 100000 in
theorem cs_Jx4a65c_fastRemove_b59b0 : Cond.selects yJx4a65c_fastRemove_b59b0.cls yJx4a65c_fastRemove_b59b0 yJx4a65c_fastRemove_b59b0 ∈ lw_T := lw_T_mem (List.mem_of_getElem? (i := 18) (by decide +kernel)) (by decide +kernel)
set_option maxRecDepth 100000 in
theorem mw_Jx4a65c_144 : Cond.methodLink RJx4a65c 144 yJx4a65c_fastRemove_b59b0 ∈ lw_T := lw_T_mem (List.mem_of_getElem? (i := 871) (by decide +kernel)) (by decide +kernel)
theorem ci_Jx4a65c_144 : CI RJx4a65c 144 yJx4a65c_fastRemove_b59b0 cJx4a65c_fastRemove_b59b0 4 none 2 := ⟨mw_Jx4a65c_144, cx_Jx4a65c_fastRemove_b59b0, cw_Jx4a65c_fastRemove_b59b0, by decide, by decide, by decide +kernel⟩
set_option maxRecDepth 100000 in
theorem tk_Jx4a65c_187 : Cond.classLink RJx4a65c 187 "java/lang/IndexOutOfBoundsException" ∈ lw_T := lw_T_mem (List.mem_of_getElem? (i := 237) (by decide +kernel)) (by decide +kernel)
set_option maxRecDepth 100000 in
theorem cw_Jx4a65c_outOfBoundsMsg_b52d3 : Cond.code yJx4a65c_outOfBoundsMsg_b52d3 cJx4a65c_outOfBoundsMsg_b52d3 2 (some (.object "java/lang/String")) ∈ lw_T := lw_T_mem (List.mem_of_getElem? (i := 281) (by decide +kernel)) (by decide +kernel)
set_option maxRecDepth 100000 in
theorem cx_Jx4a65c_outOfBoundsMsg_b52d3 : Cond.initialized yJx4a65c_outOfBoundsMsg_b52d3.cls ∈ lw_T := lw_T_mem (List.mem_of_getElem? (i := 48) (by decide +kernel)) (by decide +kernel)
set_option maxRecDepth 100000 in
theorem ct_Jx4a65c_outOfBoundsMsg_b52d3 : Cond.instanceMethod yJx4a65c_outOfBoundsMsg_b52d3 ∈ lw_T := lw_T_mem (List.mem_of_getElem? (i := 280) (by decide +kernel)) (by decide +kernel)
set_option maxRecDepth 100000 in
theorem cs_Jx4a65c_outOfBoundsMsg_b52d3 : Cond.selects yJx4a65c_outOfBoundsMsg_b52d3.cls yJx4a65c_outOfBoundsMsg_b52d3 yJx4a65c_outOfBoundsMsg_b52d3 ∈ lw_T := lw_T_mem (List.mem_of_getElem? (i := 3) (by decide +kernel)) (by decide +kernel)
set_option maxRecDepth 100000 in
theorem mw_Jx4a65c_198 : Cond.methodLink RJx4a65c 198 yJx4a65c_outOfBoundsMsg_b52d3 ∈ lw_T := lw_T_mem (List.mem_of_getElem? (i := 278) (by decide +kernel)) (by decide +kernel)
theorem ci_Jx4a65c_198 : CI RJx4a65c 198 yJx4a65c_outOfBoundsMsg_b52d3 cJx4a65c_outOfBoundsMsg_b52d3 2 (some (.object "java/lang/String")) 1 := ⟨mw_Jx4a65c_198, cx_Jx4a65c_outOfBoundsMsg_b52d3, cw_Jx4a65c_outOfBoundsMsg_b52d3, by decide, by decide, by decide +kernel⟩
set_option maxRecDepth 100000 in
theorem tk_J7_2 : Cond.classLink RJ7 2 "java/lang/Object" ∈ lw_T := lw_T_mem (List.mem_of_getElem? (i := 600) (by decide +kernel)) (by decide +kernel)
set_option maxRecDepth 100000 in
theorem tk_J7_43 : Cond.classLink RJ7 43 "java/lang/IllegalArgumentException" ∈ lw_T := lw_T_mem (List.mem_of_getElem? (i := 497) (by decide +kernel)) (by decide +kernel)
set_option maxRecDepth 100000 in
theorem tk_J7_45 : Cond.classLink RJ7 45 "java/lang/StringBuilder" ∈ lw_T := lw_T_mem (List.mem_of_getElem? (i := 506) (by decide +kernel)) (by decide +kernel)
set_option maxRecDepth 100000 in
theorem mw_J7_47 : Cond.methodLink RJ7 47 yJ4_init_da8c8 ∈ lw_T := lw_T_mem (List.mem_of_getElem? (i := 507) (by decide +kernel)) (by decide +kernel)
theorem ci_J7_47 : CI RJ7 47 yJ4_init_da8c8 cJ4_init_da8c8 1 none 0 := ⟨mw_J7_47, cx_J4_init_da8c8, cw_J4_init_da8c8, by decide, by decide, by decide +kernel⟩
set_option maxRecDepth 100000 in
theorem mw_J7_50 : Cond.methodLink RJ7 50 yJ4_append_15ec4 ∈ lw_T := lw_T_mem (List.mem_of_getElem? (i := 510) (by decide +kernel)) (by decide +kernel)
theorem ci_J7_50 : CI RJ7 50 yJ4_append_15ec4 cJ4_append_15ec4 2 (some (.object "java/lang/StringBuilder")) 1 := ⟨mw_J7_50, cx_J4_append_15ec4, cw_J4_append_15ec4, by decide, by decide, by decide +kernel⟩
set_option maxRecDepth 100000 in
theorem mw_J7_54 : Cond.methodLink RJ7 54 yJ4_append_bf812 ∈ lw_T := lw_T_mem (List.mem_of_getElem? (i := 508) (by decide +kernel)) (by decide +kernel)
theorem ci_J7_54 : CI RJ7 54 yJ4_append_bf812 cJ4_append_bf812 2 (some (.object "java/lang/StringBuilder")) 1 := ⟨mw_J7_54, cx_J4_append_bf812, cw_J4_append_bf812, by decide, by decide, by decide +kernel⟩
set_option maxRecDepth 100000 in
theorem mw_J7_61 : Cond.methodLink RJ7 61 yJ4_toString_0e30d ∈ lw_T := lw_T_mem (List.mem_of_getElem? (i := 511) (by decide +kernel)) (by decide +kernel)
theorem ci_J7_61 : CI RJ7 61 yJ4_toString_0e30d cJ4_toString_0e30d 1 (some (.object "java/lang/String")) 0 := ⟨mw_J7_61, cx_J4_toString_0e30d, cw_J4_toString_0e30d, by decide, by decide, by decide +kernel⟩
set_option maxRecDepth 100000 in
theorem tk_J7_110 : Cond.classLink RJ7 110 "[Ljava/lang/Object;" ∈ lw_T := lw_T_mem (List.mem_of_getElem? (i := 598) (by decide +kernel)) (by decide +kernel)
set_option maxRecDepth 100000 in
theorem cw_J7_copyOf_6403c : Cond.code yJ7_copyOf_6403c cJ7_copyOf_6403c 4 (some (.array (.object "java/lang/Object"))) ∈ lw_T := lw_T_mem (List.mem_of_getElem? (i := 597) (by decide +kernel)) (by decide +kernel)
set_option maxRecDepth 100000 in
theorem cx_J7_copyOf_6403c : Cond.initialized yJ7_copyOf_6403c.cls ∈ lw_T := lw_T_mem (List.mem_of_getElem? (i := 49) (by decide +kernel)) (by decide +kernel)
set_option maxRecDepth 100000 in
theorem ct_J7_copyOf_6403c : Cond.static yJ7_copyOf_6403c ∈ lw_T := lw_T_mem (List.mem_of_getElem? (i := 596) (by decide +kernel)) (by decide +kernel)
set_option maxRecDepth 100000 in
theorem mw_J7_300 : Cond.methodLink RJ7 300 yJ7_copyOf_6403c ∈ lw_T := lw_T_mem (List.mem_of_getElem? (i := 595) (by decide +kernel)) (by decide +kernel)
theorem ci_J7_300 : CI RJ7 300 yJ7_copyOf_6403c cJ7_copyOf_6403c 4 (some (.array (.object "java/lang/Object"))) 3 := ⟨mw_J7_300, cx_J7_copyOf_6403c, cw_J7_copyOf_6403c, by decide, by decide, by decide +kernel⟩
set_option maxRecDepth 100000 in
theorem mw_J7_304 : Cond.methodLink RJ7 304 yJ9_min_7cf53 ∈ lw_T := lw_T_mem (List.mem_of_getElem? (i := 355) (by decide +kernel)) (by decide +kernel)
theorem ci_J7_304 : CI RJ7 304 yJ9_min_7cf53 cJ9_min_7cf53 2 (some .int) 2 := ⟨mw_J7_304, cx_J9_min_7cf53, cw_J9_min_7cf53, by decide, by decide, by decide +kernel⟩
set_option maxRecDepth 100000 in
theorem tk_J7_311 : Cond.classLink RJ7 311 "[B" ∈ lw_T := lw_T_mem (List.mem_of_getElem? (i := 354) (by decide +kernel)) (by decide +kernel)
set_option maxRecDepth 100000 in
theorem cw_J7_copyOfRangeByte_39247 : Cond.code yJ7_copyOfRangeByte_39247 cJ7_copyOfRangeByte_39247 5 (some (.array .byte)) ∈ lw_T := lw_T_mem (List.mem_of_getElem? (i := 493) (by decide +kernel)) (by decide +kernel)
set_option maxRecDepth 100000 in
theorem cx_J7_copyOfRangeByte_39247 : Cond.initialized yJ7_copyOfRangeByte_39247.cls ∈ lw_T := lw_T_mem (List.mem_of_getElem? (i := 49) (by decide +kernel)) (by decide +kernel)
set_option maxRecDepth 100000 in
theorem ct_J7_copyOfRangeByte_39247 : Cond.static yJ7_copyOfRangeByte_39247 ∈ lw_T := lw_T_mem (List.mem_of_getElem? (i := 492) (by decide +kernel)) (by decide +kernel)
set_option maxRecDepth 100000 in
theorem mw_J7_339 : Cond.methodLink RJ7 339 yJ7_copyOfRangeByte_39247 ∈ lw_T := lw_T_mem (List.mem_of_getElem? (i := 491) (by decide +kernel)) (by decide +kernel)
theorem ci_J7_339 : CI RJ7 339 yJ7_copyOfRangeByte_39247 cJ7_copyOfRangeByte_39247 5 (some (.array .byte)) 3 := ⟨mw_J7_339, cx_J7_copyOfRangeByte_39247, cw_J7_copyOfRangeByte_39247, by decide, by decide, by decide +kernel⟩
set_option maxRecDepth 100000 in
theorem cw_J7_checkLength_df160 : Cond.code yJ7_checkLength_df160 cJ7_checkLength_df160 2 none ∈ lw_T := lw_T_mem (List.mem_of_getElem? (i := 496) (by decide +kernel)) (by decide +kernel)
set_option maxRecDepth 100000 in
theorem cx_J7_checkLength_df160 : Cond.initialized yJ7_checkLength_df160.cls ∈ lw_T := lw_T_mem (List.mem_of_getElem? (i := 49) (by decide +kernel)) (by decide +kernel)
set_option maxRecDepth 100000 in
theorem ct_J7_checkLength_df160 : Cond.static yJ7_checkLength_df160 ∈ lw_T := lw_T_mem (List.mem_of_getElem? (i := 495) (by decide +kernel)) (by decide +kernel)
set_option maxRecDepth 100000 in
theorem mw_J7_343 : Cond.methodLink RJ7 343 yJ7_checkLength_df160 ∈ lw_T := lw_T_mem (List.mem_of_getElem? (i := 494) (by decide +kernel)) (by decide +kernel)
theorem ci_J7_343 : CI RJ7 343 yJ7_checkLength_df160 cJ7_checkLength_df160 2 none 2 := ⟨mw_J7_343, cx_J7_checkLength_df160, cw_J7_checkLength_df160, by decide, by decide, by decide +kernel⟩
set_option maxRecDepth 100000 in
theorem cw_J3_checkIndex_8e157 : Cond.code yJ3_checkIndex_8e157 cJ3_checkIndex_8e157 3 (some .int) ∈ lw_T := lw_T_mem (List.mem_of_getElem? (i := 219) (by decide +kernel)) (by decide +kernel)
set_option maxRecDepth 100000 in
theorem cx_J3_checkIndex_8e157 : Cond.initialized yJ3_checkIndex_8e157.cls ∈ lw_T := lw_T_mem (List.mem_of_getElem? (i := 62) (by decide +kernel)) (by decide +kernel)
set_option maxRecDepth 100000 in
theorem ct_J3_checkIndex_8e157 : Cond.static yJ3_checkIndex_8e157 ∈ lw_T := lw_T_mem (List.mem_of_getElem? (i := 218) (by decide +kernel)) (by decide +kernel)
set_option maxRecDepth 100000 in
theorem mw_J15_105 : Cond.methodLink RJ15 105 yJ3_checkIndex_8e157 ∈ lw_T := lw_T_mem (List.mem_of_getElem? (i := 217) (by decide +kernel)) (by decide +kernel)
theorem ci_J15_105 : CI RJ15 105 yJ3_checkIndex_8e157 cJ3_checkIndex_8e157 3 (some .int) 3 := ⟨mw_J15_105, cx_J3_checkIndex_8e157, cw_J3_checkIndex_8e157, by decide, by decide, by decide +kernel⟩
set_option maxRecDepth 100000 in
theorem mw_J8_194 : Cond.methodLink RJ8 194 yJ9_max_7cf53 ∈ lw_T := lw_T_mem (List.mem_of_getElem? (i := 337) (by decide +kernel)) (by decide +kernel)
theorem ci_J8_194 : CI RJ8 194 yJ9_max_7cf53 cJ9_max_7cf53 2 (some .int) 2 := ⟨mw_J8_194, cx_J9_max_7cf53, cw_J9_max_7cf53, by decide, by decide, by decide +kernel⟩
set_option maxRecDepth 100000 in
theorem cw_J8_hugeLength_7cf53 : Cond.code yJ8_hugeLength_7cf53 cJ8_hugeLength_7cf53 3 (some .int) ∈ lw_T := lw_T_mem (List.mem_of_getElem? (i := 343) (by decide +kernel)) (by decide +kernel)
set_option maxRecDepth 100000 in
theorem cx_J8_hugeLength_7cf53 : Cond.initialized yJ8_hugeLength_7cf53.cls ∈ lw_T := lw_T_mem (List.mem_of_getElem? (i := 58) (by decide +kernel)) (by decide +kernel)
set_option maxRecDepth 100000 in
theorem ct_J8_hugeLength_7cf53 : Cond.static yJ8_hugeLength_7cf53 ∈ lw_T := lw_T_mem (List.mem_of_getElem? (i := 342) (by decide +kernel)) (by decide +kernel)
set_option maxRecDepth 100000 in
theorem mw_J8_201 : Cond.methodLink RJ8 201 yJ8_hugeLength_7cf53 ∈ lw_T := lw_T_mem (List.mem_of_getElem? (i := 341) (by decide +kernel)) (by decide +kernel)
theorem ci_J8_201 : CI RJ8 201 yJ8_hugeLength_7cf53 cJ8_hugeLength_7cf53 3 (some .int) 2 := ⟨mw_J8_201, cx_J8_hugeLength_7cf53, cw_J8_hugeLength_7cf53, by decide, by decide, by decide +kernel⟩
