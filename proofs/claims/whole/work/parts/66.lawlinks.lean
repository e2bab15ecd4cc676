/-! ===== the law: its words ===== -/
set_option maxRecDepth 100000 in
theorem lx_L : Cond.initialized RL ∈ lw_T := lw_T_mem (List.mem_of_getElem? (i := 43) (by decide +kernel)) (by decide +kernel)
set_option maxRecDepth 100000 in
theorem tw_ac4 : Cond.arrayClass .long ∈ lw_T := lw_T_mem (List.mem_of_getElem? (i := 1296) (by decide +kernel)) (by decide +kernel)
set_option maxRecDepth 100000 in
theorem tc_IndexOutOfBoundsException : Cond.castable "java/lang/IndexOutOfBoundsException" "java/lang/IndexOutOfBoundsException" ∈ lw_T := lw_T_mem (List.mem_of_getElem? (i := 239) (by decide +kernel)) (by decide +kernel)
set_option maxRecDepth 100000 in
theorem tc_IllegalArgumentException : Cond.castable "java/lang/IllegalArgumentException" "java/lang/IllegalArgumentException" ∈ lw_T := lw_T_mem (List.mem_of_getElem? (i := 499) (by decide +kernel)) (by decide +kernel)
set_option maxRecDepth 100000 in
theorem tc_IllegalStateException : Cond.castable "java/lang/IllegalStateException" "java/lang/IllegalStateException" ∈ lw_T := lw_T_mem (List.mem_of_getElem? (i := 705) (by decide +kernel)) (by decide +kernel)
set_option maxRecDepth 100000 in
theorem tk_L_39b : Cond.classLink RL 39 "java/lang/IndexOutOfBoundsException" ∈ lw_T := lw_T_mem (List.mem_of_getElem? (i := 851) (by decide +kernel)) (by decide +kernel)
abbrev hL_addRack : List (Nat × Nat × Nat × Nat) := [(0, 14, 17, 13), (0, 14, 21, 15)]
set_option maxRecDepth 100000 in
theorem lc_addRack : Cond.codeWith yL_addRack cL_addRack 7 (some .int) hL_addRack ∈ lw_T := lw_T_mem (List.mem_of_getElem? (i := 690) (by decide +kernel)) (by decide +kernel)
set_option maxRecDepth 100000 in
theorem lm_addRack : Cond.methodLink RL 87 yL_addRack ∈ lw_T := lw_T_mem (List.mem_of_getElem? (i := 688) (by decide +kernel)) (by decide +kernel)
set_option maxRecDepth 100000 in
theorem ls_addRack : Cond.static yL_addRack ∈ lw_T := lw_T_mem (List.mem_of_getElem? (i := 689) (by decide +kernel)) (by decide +kernel)
abbrev hL_setRow : List (Nat × Nat × Nat × Nat) := [(0, 7, 10, 13), (0, 7, 14, 15)]
set_option maxRecDepth 100000 in
theorem lc_setRow : Cond.codeWith yL_setRow cL_setRow 5 (some .int) hL_setRow ∈ lw_T := lw_T_mem (List.mem_of_getElem? (i := 754) (by decide +kernel)) (by decide +kernel)
set_option maxRecDepth 100000 in
theorem lm_setRow : Cond.methodLink RL 97 yL_setRow ∈ lw_T := lw_T_mem (List.mem_of_getElem? (i := 752) (by decide +kernel)) (by decide +kernel)
set_option maxRecDepth 100000 in
theorem ls_setRow : Cond.static yL_setRow ∈ lw_T := lw_T_mem (List.mem_of_getElem? (i := 753) (by decide +kernel)) (by decide +kernel)
abbrev hL_setFeed : List (Nat × Nat × Nat × Nat) := [(0, 10, 13, 13), (0, 10, 17, 15)]
set_option maxRecDepth 100000 in
theorem lc_setFeed : Cond.codeWith yL_setFeed cL_setFeed 5 (some .int) hL_setFeed ∈ lw_T := lw_T_mem (List.mem_of_getElem? (i := 764) (by decide +kernel)) (by decide +kernel)
set_option maxRecDepth 100000 in
theorem lm_setFeed : Cond.methodLink RL 101 yL_setFeed ∈ lw_T := lw_T_mem (List.mem_of_getElem? (i := 762) (by decide +kernel)) (by decide +kernel)
set_option maxRecDepth 100000 in
theorem ls_setFeed : Cond.static yL_setFeed ∈ lw_T := lw_T_mem (List.mem_of_getElem? (i := 763) (by decide +kernel)) (by decide +kernel)
abbrev hL_switchFeed : List (Nat × Nat × Nat × Nat) := [(0, 9, 12, 13)]
set_option maxRecDepth 100000 in
theorem lc_switchFeed : Cond.codeWith yL_switchFeed cL_switchFeed 4 (some .int) hL_switchFeed ∈ lw_T := lw_T_mem (List.mem_of_getElem? (i := 776) (by decide +kernel)) (by decide +kernel)
set_option maxRecDepth 100000 in
theorem lm_switchFeed : Cond.methodLink RL 105 yL_switchFeed ∈ lw_T := lw_T_mem (List.mem_of_getElem? (i := 774) (by decide +kernel)) (by decide +kernel)
set_option maxRecDepth 100000 in
theorem ls_switchFeed : Cond.static yL_switchFeed ∈ lw_T := lw_T_mem (List.mem_of_getElem? (i := 775) (by decide +kernel)) (by decide +kernel)
abbrev hL_hasFailed : List (Nat × Nat × Nat × Nat) := [(0, 16, 19, 13)]
set_option maxRecDepth 100000 in
theorem lc_hasFailed : Cond.codeWith yL_hasFailed cL_hasFailed 4 (some .int) hL_hasFailed ∈ lw_T := lw_T_mem (List.mem_of_getElem? (i := 791) (by decide +kernel)) (by decide +kernel)
set_option maxRecDepth 100000 in
theorem lm_hasFailed : Cond.methodLink RL 109 yL_hasFailed ∈ lw_T := lw_T_mem (List.mem_of_getElem? (i := 789) (by decide +kernel)) (by decide +kernel)
set_option maxRecDepth 100000 in
theorem ls_hasFailed : Cond.static yL_hasFailed ∈ lw_T := lw_T_mem (List.mem_of_getElem? (i := 790) (by decide +kernel)) (by decide +kernel)
abbrev hL_place : List (Nat × Nat × Nat × Nat) := [(0, 14, 17, 13), (0, 14, 21, 15)]
set_option maxRecDepth 100000 in
theorem lc_place : Cond.codeWith yL_place cL_place 7 (some .int) hL_place ∈ lw_T := lw_T_mem (List.mem_of_getElem? (i := 798) (by decide +kernel)) (by decide +kernel)
set_option maxRecDepth 100000 in
theorem lm_place : Cond.methodLink RL 116 yL_place ∈ lw_T := lw_T_mem (List.mem_of_getElem? (i := 796) (by decide +kernel)) (by decide +kernel)
set_option maxRecDepth 100000 in
theorem ls_place : Cond.static yL_place ∈ lw_T := lw_T_mem (List.mem_of_getElem? (i := 797) (by decide +kernel)) (by decide +kernel)
abbrev hL_takeOut : List (Nat × Nat × Nat × Nat) := [(0, 9, 12, 39)]
set_option maxRecDepth 100000 in
theorem lc_takeOut : Cond.codeWith yL_takeOut cL_takeOut 4 (some .int) hL_takeOut ∈ lw_T := lw_T_mem (List.mem_of_getElem? (i := 850) (by decide +kernel)) (by decide +kernel)
set_option maxRecDepth 100000 in
theorem lm_takeOut : Cond.methodLink RL 119 yL_takeOut ∈ lw_T := lw_T_mem (List.mem_of_getElem? (i := 848) (by decide +kernel)) (by decide +kernel)
set_option maxRecDepth 100000 in
theorem ls_takeOut : Cond.static yL_takeOut ∈ lw_T := lw_T_mem (List.mem_of_getElem? (i := 849) (by decide +kernel)) (by decide +kernel)
abbrev hL_cord : List (Nat × Nat × Nat × Nat) := [(0, 10, 13, 39), (0, 10, 17, 13), (0, 10, 21, 15)]
set_option maxRecDepth 100000 in
theorem lc_cord : Cond.codeWith yL_cord cL_cord 5 (some .int) hL_cord ∈ lw_T := lw_T_mem (List.mem_of_getElem? (i := 878) (by decide +kernel)) (by decide +kernel)
set_option maxRecDepth 100000 in
theorem lm_cord : Cond.methodLink RL 122 yL_cord ∈ lw_T := lw_T_mem (List.mem_of_getElem? (i := 876) (by decide +kernel)) (by decide +kernel)
set_option maxRecDepth 100000 in
theorem ls_cord : Cond.static yL_cord ∈ lw_T := lw_T_mem (List.mem_of_getElem? (i := 877) (by decide +kernel)) (by decide +kernel)
abbrev hL_rackOf : List (Nat × Nat × Nat × Nat) := [(0, 9, 12, 39)]
set_option maxRecDepth 100000 in
theorem lc_rackOf : Cond.codeWith yL_rackOf cL_rackOf 4 (some .int) hL_rackOf ∈ lw_T := lw_T_mem (List.mem_of_getElem? (i := 899) (by decide +kernel)) (by decide +kernel)
set_option maxRecDepth 100000 in
theorem lm_rackOf : Cond.methodLink RL 133 yL_rackOf ∈ lw_T := lw_T_mem (List.mem_of_getElem? (i := 897) (by decide +kernel)) (by decide +kernel)
set_option maxRecDepth 100000 in
theorem ls_rackOf : Cond.static yL_rackOf ∈ lw_T := lw_T_mem (List.mem_of_getElem? (i := 898) (by decide +kernel)) (by decide +kernel)
abbrev hL_slotOf : List (Nat × Nat × Nat × Nat) := [(0, 9, 12, 39)]
set_option maxRecDepth 100000 in
theorem lc_slotOf : Cond.codeWith yL_slotOf cL_slotOf 4 (some .int) hL_slotOf ∈ lw_T := lw_T_mem (List.mem_of_getElem? (i := 906) (by decide +kernel)) (by decide +kernel)
set_option maxRecDepth 100000 in
theorem lm_slotOf : Cond.methodLink RL 136 yL_slotOf ∈ lw_T := lw_T_mem (List.mem_of_getElem? (i := 904) (by decide +kernel)) (by decide +kernel)
set_option maxRecDepth 100000 in
theorem ls_slotOf : Cond.static yL_slotOf ∈ lw_T := lw_T_mem (List.mem_of_getElem? (i := 905) (by decide +kernel)) (by decide +kernel)
abbrev hL_isDark : List (Nat × Nat × Nat × Nat) := [(0, 16, 19, 39)]
set_option maxRecDepth 100000 in
theorem lc_isDark : Cond.codeWith yL_isDark cL_isDark 4 (some .int) hL_isDark ∈ lw_T := lw_T_mem (List.mem_of_getElem? (i := 913) (by decide +kernel)) (by decide +kernel)
set_option maxRecDepth 100000 in
theorem lm_isDark : Cond.methodLink RL 139 yL_isDark ∈ lw_T := lw_T_mem (List.mem_of_getElem? (i := 911) (by decide +kernel)) (by decide +kernel)
set_option maxRecDepth 100000 in
theorem ls_isDark : Cond.static yL_isDark ∈ lw_T := lw_T_mem (List.mem_of_getElem? (i := 912) (by decide +kernel)) (by decide +kernel)
abbrev hL_machineAt : List (Nat × Nat × Nat × Nat) := [(0, 10, 13, 39)]
set_option maxRecDepth 100000 in
theorem lc_machineAt : Cond.codeWith yL_machineAt cL_machineAt 5 (some .int) hL_machineAt ∈ lw_T := lw_T_mem (List.mem_of_getElem? (i := 920) (by decide +kernel)) (by decide +kernel)
set_option maxRecDepth 100000 in
theorem lm_machineAt : Cond.methodLink RL 142 yL_machineAt ∈ lw_T := lw_T_mem (List.mem_of_getElem? (i := 918) (by decide +kernel)) (by decide +kernel)
set_option maxRecDepth 100000 in
theorem ls_machineAt : Cond.static yL_machineAt ∈ lw_T := lw_T_mem (List.mem_of_getElem? (i := 919) (by decide +kernel)) (by decide +kernel)
abbrev hL_next : List (Nat × Nat × Nat × Nat) := [(0, 9, 12, 39)]
set_option maxRecDepth 100000 in
theorem lc_next : Cond.codeWith yL_next cL_next 4 (some .int) hL_next ∈ lw_T := lw_T_mem (List.mem_of_getElem? (i := 934) (by decide +kernel)) (by decide +kernel)
set_option maxRecDepth 100000 in
theorem lm_next : Cond.methodLink RL 145 yL_next ∈ lw_T := lw_T_mem (List.mem_of_getElem? (i := 932) (by decide +kernel)) (by decide +kernel)
set_option maxRecDepth 100000 in
theorem ls_next : Cond.static yL_next ∈ lw_T := lw_T_mem (List.mem_of_getElem? (i := 933) (by decide +kernel)) (by decide +kernel)
abbrev hL_powerOf : List (Nat × Nat × Nat × Nat) := [(0, 10, 13, 39), (0, 10, 17, 13)]
set_option maxRecDepth 100000 in
theorem lc_powerOf : Cond.codeWith yL_powerOf cL_powerOf 5 (some .int) hL_powerOf ∈ lw_T := lw_T_mem (List.mem_of_getElem? (i := 945) (by decide +kernel)) (by decide +kernel)
set_option maxRecDepth 100000 in
theorem lm_powerOf : Cond.methodLink RL 148 yL_powerOf ∈ lw_T := lw_T_mem (List.mem_of_getElem? (i := 943) (by decide +kernel)) (by decide +kernel)
set_option maxRecDepth 100000 in
theorem ls_powerOf : Cond.static yL_powerOf ∈ lw_T := lw_T_mem (List.mem_of_getElem? (i := 944) (by decide +kernel)) (by decide +kernel)
abbrev hL_worstOf : List (Nat × Nat × Nat × Nat) := [(0, 10, 13, 39), (0, 10, 17, 13)]
set_option maxRecDepth 100000 in
theorem lc_worstOf : Cond.codeWith yL_worstOf cL_worstOf 5 (some .int) hL_worstOf ∈ lw_T := lw_T_mem (List.mem_of_getElem? (i := 956) (by decide +kernel)) (by decide +kernel)
set_option maxRecDepth 100000 in
theorem lm_worstOf : Cond.methodLink RL 151 yL_worstOf ∈ lw_T := lw_T_mem (List.mem_of_getElem? (i := 954) (by decide +kernel)) (by decide +kernel)
set_option maxRecDepth 100000 in
theorem ls_worstOf : Cond.static yL_worstOf ∈ lw_T := lw_T_mem (List.mem_of_getElem? (i := 955) (by decide +kernel)) (by decide +kernel)
abbrev hL_weightOf : List (Nat × Nat × Nat × Nat) := [(0, 9, 12, 39)]
set_option maxRecDepth 100000 in
theorem lc_weightOf : Cond.codeWith yL_weightOf cL_weightOf 4 (some .int) hL_weightOf ∈ lw_T := lw_T_mem (List.mem_of_getElem? (i := 963) (by decide +kernel)) (by decide +kernel)
set_option maxRecDepth 100000 in
theorem lm_weightOf : Cond.methodLink RL 154 yL_weightOf ∈ lw_T := lw_T_mem (List.mem_of_getElem? (i := 961) (by decide +kernel)) (by decide +kernel)
set_option maxRecDepth 100000 in
theorem ls_weightOf : Cond.static yL_weightOf ∈ lw_T := lw_T_mem (List.mem_of_getElem? (i := 962) (by decide +kernel)) (by decide +kernel)
abbrev hL_heatOf : List (Nat × Nat × Nat × Nat) := [(0, 9, 12, 13)]
set_option maxRecDepth 100000 in
theorem lc_heatOf : Cond.codeWith yL_heatOf cL_heatOf 4 (some .int) hL_heatOf ∈ lw_T := lw_T_mem (List.mem_of_getElem? (i := 970) (by decide +kernel)) (by decide +kernel)
set_option maxRecDepth 100000 in
theorem lm_heatOf : Cond.methodLink RL 157 yL_heatOf ∈ lw_T := lw_T_mem (List.mem_of_getElem? (i := 968) (by decide +kernel)) (by decide +kernel)
set_option maxRecDepth 100000 in
theorem ls_heatOf : Cond.static yL_heatOf ∈ lw_T := lw_T_mem (List.mem_of_getElem? (i := 969) (by decide +kernel)) (by decide +kernel)
abbrev hL_gap : List (Nat × Nat × Nat × Nat) := [(0, 9, 12, 39)]
set_option maxRecDepth 100000 in
theorem lc_gap : Cond.codeWith yL_gap cL_gap 4 (some .int) hL_gap ∈ lw_T := lw_T_mem (List.mem_of_getElem? (i := 981) (by decide +kernel)) (by decide +kernel)
set_option maxRecDepth 100000 in
theorem lm_gap : Cond.methodLink RL 160 yL_gap ∈ lw_T := lw_T_mem (List.mem_of_getElem? (i := 979) (by decide +kernel)) (by decide +kernel)
set_option maxRecDepth 100000 in
theorem ls_gap : Cond.static yL_gap ∈ lw_T := lw_T_mem (List.mem_of_getElem? (i := 980) (by decide +kernel)) (by decide +kernel)
abbrev hL_racksFor : List (Nat × Nat × Nat × Nat) := [(0, 14, 17, 13)]
set_option maxRecDepth 100000 in
theorem lc_racksFor : Cond.codeWith yL_racksFor cL_racksFor 7 (some .int) hL_racksFor ∈ lw_T := lw_T_mem (List.mem_of_getElem? (i := 993) (by decide +kernel)) (by decide +kernel)
set_option maxRecDepth 100000 in
theorem lm_racksFor : Cond.methodLink RL 163 yL_racksFor ∈ lw_T := lw_T_mem (List.mem_of_getElem? (i := 991) (by decide +kernel)) (by decide +kernel)
set_option maxRecDepth 100000 in
theorem ls_racksFor : Cond.static yL_racksFor ∈ lw_T := lw_T_mem (List.mem_of_getElem? (i := 992) (by decide +kernel)) (by decide +kernel)
abbrev hL_roomFor : List (Nat × Nat × Nat × Nat) := [(0, 14, 17, 13)]
set_option maxRecDepth 100000 in
theorem lc_roomFor : Cond.codeWith yL_roomFor cL_roomFor 7 (some .int) hL_roomFor ∈ lw_T := lw_T_mem (List.mem_of_getElem? (i := 1001) (by decide +kernel)) (by decide +kernel)
set_option maxRecDepth 100000 in
theorem lm_roomFor : Cond.methodLink RL 166 yL_roomFor ∈ lw_T := lw_T_mem (List.mem_of_getElem? (i := 999) (by decide +kernel)) (by decide +kernel)
set_option maxRecDepth 100000 in
theorem ls_roomFor : Cond.static yL_roomFor ∈ lw_T := lw_T_mem (List.mem_of_getElem? (i := 1000) (by decide +kernel)) (by decide +kernel)
abbrev hL_roomByCounting : List (Nat × Nat × Nat × Nat) := [(0, 14, 17, 13)]
set_option maxRecDepth 100000 in
theorem lc_roomByCounting : Cond.codeWith yL_roomByCounting cL_roomByCounting 7 (some .int) hL_roomByCounting ∈ lw_T := lw_T_mem (List.mem_of_getElem? (i := 1018) (by decide +kernel)) (by decide +kernel)
set_option maxRecDepth 100000 in
theorem lm_roomByCounting : Cond.methodLink RL 169 yL_roomByCounting ∈ lw_T := lw_T_mem (List.mem_of_getElem? (i := 1016) (by decide +kernel)) (by decide +kernel)
set_option maxRecDepth 100000 in
theorem ls_roomByCounting : Cond.static yL_roomByCounting ∈ lw_T := lw_T_mem (List.mem_of_getElem? (i := 1017) (by decide +kernel)) (by decide +kernel)
