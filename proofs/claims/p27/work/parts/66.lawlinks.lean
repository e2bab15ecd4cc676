/-! ===== the law: its words ===== -/
set_option maxRecDepth 100000 in
theorem lx_L : Cond.initialized RL ∈ lw_T := lw_T_mem (List.mem_of_getElem? (i := 25) (by decide +kernel)) (by decide +kernel)
set_option maxRecDepth 100000 in
theorem tc_IndexOutOfBoundsException : Cond.castable "java/lang/IndexOutOfBoundsException" "java/lang/IndexOutOfBoundsException" ∈ lw_T := lw_T_mem (List.mem_of_getElem? (i := 400) (by decide +kernel)) (by decide +kernel)
set_option maxRecDepth 100000 in
theorem tc_IllegalStateException : Cond.castable "java/lang/IllegalStateException" "java/lang/IllegalStateException" ∈ lw_T := lw_T_mem (List.mem_of_getElem? (i := 252) (by decide +kernel)) (by decide +kernel)
set_option maxRecDepth 100000 in
theorem lk_97 : Cond.constant RL 97 (iI 570001) ∈ lw_T := lw_T_mem (List.mem_of_getElem? (i := 973) (by decide +kernel)) (by decide +kernel)
set_option maxRecDepth 100000 in
theorem lk_98 : Cond.constant RL 98 (iI 65535) ∈ lw_T := lw_T_mem (List.mem_of_getElem? (i := 974) (by decide +kernel)) (by decide +kernel)
abbrev hL_places : List (Nat × Nat × Nat × Nat) := [(0, 9, 10, 13)]
set_option maxRecDepth 100000 in
theorem lc_places : Cond.codeWith yL_places cL_places 6 (some .int) hL_places ∈ lw_T := lw_T_mem (List.mem_of_getElem? (i := 854) (by decide +kernel)) (by decide +kernel)
set_option maxRecDepth 100000 in
theorem lm_places : Cond.methodLink RL 76 yL_places ∈ lw_T := lw_T_mem (List.mem_of_getElem? (i := 852) (by decide +kernel)) (by decide +kernel)
set_option maxRecDepth 100000 in
theorem ls_places : Cond.static yL_places ∈ lw_T := lw_T_mem (List.mem_of_getElem? (i := 853) (by decide +kernel)) (by decide +kernel)
abbrev hL_rack : List (Nat × Nat × Nat × Nat) := [(0, 5, 6, 30)]
set_option maxRecDepth 100000 in
theorem lc_rack : Cond.codeWith yL_rack cL_rack 3 (some .int) hL_rack ∈ lw_T := lw_T_mem (List.mem_of_getElem? (i := 900) (by decide +kernel)) (by decide +kernel)
set_option maxRecDepth 100000 in
theorem lm_rack : Cond.methodLink RL 85 yL_rack ∈ lw_T := lw_T_mem (List.mem_of_getElem? (i := 898) (by decide +kernel)) (by decide +kernel)
set_option maxRecDepth 100000 in
theorem ls_rack : Cond.static yL_rack ∈ lw_T := lw_T_mem (List.mem_of_getElem? (i := 899) (by decide +kernel)) (by decide +kernel)
abbrev hL_corded : List (Nat × Nat × Nat × Nat) := [(0, 6, 7, 13)]
set_option maxRecDepth 100000 in
theorem lc_corded : Cond.codeWith yL_corded cL_corded 4 (some .int) hL_corded ∈ lw_T := lw_T_mem (List.mem_of_getElem? (i := 864) (by decide +kernel)) (by decide +kernel)
set_option maxRecDepth 100000 in
theorem lm_corded : Cond.methodLink RL 102 yL_corded ∈ lw_T := lw_T_mem (List.mem_of_getElem? (i := 862) (by decide +kernel)) (by decide +kernel)
set_option maxRecDepth 100000 in
theorem ls_corded : Cond.static yL_corded ∈ lw_T := lw_T_mem (List.mem_of_getElem? (i := 863) (by decide +kernel)) (by decide +kernel)
abbrev hL_feeds : List (Nat × Nat × Nat × Nat) := [(0, 6, 7, 13)]
set_option maxRecDepth 100000 in
theorem lc_feeds : Cond.codeWith yL_feeds cL_feeds 4 (some .int) hL_feeds ∈ lw_T := lw_T_mem (List.mem_of_getElem? (i := 881) (by decide +kernel)) (by decide +kernel)
set_option maxRecDepth 100000 in
theorem lm_feeds : Cond.methodLink RL 106 yL_feeds ∈ lw_T := lw_T_mem (List.mem_of_getElem? (i := 879) (by decide +kernel)) (by decide +kernel)
set_option maxRecDepth 100000 in
theorem ls_feeds : Cond.static yL_feeds ∈ lw_T := lw_T_mem (List.mem_of_getElem? (i := 880) (by decide +kernel)) (by decide +kernel)
abbrev hL_rows : List (Nat × Nat × Nat × Nat) := [(0, 8, 9, 13)]
set_option maxRecDepth 100000 in
theorem lc_rows : Cond.codeWith yL_rows cL_rows 5 (some .int) hL_rows ∈ lw_T := lw_T_mem (List.mem_of_getElem? (i := 890) (by decide +kernel)) (by decide +kernel)
set_option maxRecDepth 100000 in
theorem lm_rows : Cond.methodLink RL 112 yL_rows ∈ lw_T := lw_T_mem (List.mem_of_getElem? (i := 888) (by decide +kernel)) (by decide +kernel)
set_option maxRecDepth 100000 in
theorem ls_rows : Cond.static yL_rows ∈ lw_T := lw_T_mem (List.mem_of_getElem? (i := 889) (by decide +kernel)) (by decide +kernel)
