-- X5_addRack
set_option maxRecDepth 100000 in
set_option maxHeartbeats 8000000 in
theorem k_X5_addRack (l : Launch) (g : gT) {P : Nat → Nat} {σ : sT} (hP : mok P) (hB : MB σ) (row sl w p : Int) (hrow : -2147483648 ≤ row ∧ row ≤ 2147483647) (hsl : -2147483648 ≤ sl ∧ sl ≤ 2147483647) (hw : -2147483648 ≤ w ∧ w ≤ 2147483647) (hp : -2147483648 ≤ p ∧ p ≤ 2147483647) : CM l g yX5_addRack cX5_addRack 6 (some .int) ({ frames := 2, cells := 0, slots := 0, locals := 42 }) [.ref (P 0), .int (iI (row)), .int (iI (sl)), .int (iI (w)), .int (iI (p))] (mheap g P σ) (pV (some (.int (iI (aR_a σ row sl w p)))) (mheap g P (aR_s σ row sl w p))) (noX) := by
  refine CM.of (lo := [some (.ref (P 0)), some (.int (iI (row))), some (.int (iI (sl))), some (.int (iI (w))), some (.int (iI (p))), none]) (by decide) (Nat.le_of_ble_eq_true rfl) (by simp [Value.category]) rfl ?_
  intro pX eX sX mX bX tX cX AX F htab hmn
  have F : Fx pX l sX mX ([.ref (P 0), .int (iI (row)), .int (iI (sl)), .int (iI (w)), .int (iI (p))] : List Value).toArray tX cX cX5_addRack 6 (some .int) RX5 g AX := F
  have bm : (0 : Int) ≤ σ 17 0 ∧ σ 17 0 ≤ (60 : Int) := mb_nm hB
  have br : (0 : Int) ≤ σ 5 0 ∧ σ 5 0 ≤ (8 : Int) := mb_nr hB
  have J_1 : VE pX l eX ({ frames := 2, cells := 0, slots := 0, locals := 42 }) sX mX ([.ref (P 0), .int (iI (row)), .int (iI (sl)), .int (iI (w)), .int (iI (p))] : List Value).toArray bX tX cX 6 g AX (mheap g P σ) 0 0 47 [some (.ref (P 0)), some (.int (iI (row))), some (.int (iI (sl))), some (.int (iI (w))), some (.int (iI (p))), none] [.int (iI (bI (aR_ok row sl w p)))] (pV (some (.int (iI (aR_a σ row sl w p)))) (mheap g P (aR_s σ row sl w p))) (noX) 0 0 := by
    refine v_istore F (pc := 47) (lo' := [some (.ref (P 0)), some (.int (iI (row))), some (.int (iI (sl))), some (.int (iI (w))), some (.int (iI (p))), some (.int (iI (bI (aR_ok row sl w p))))]) dX5_addRack_47 (Nat.le_of_ble_eq_true rfl) rfl ?_
    refine v_aload_n F (pc := 49) dX5_addRack_49 rfl ?_
    have J_2 : VE pX l eX ({ frames := 2, cells := 0, slots := 0, locals := 42 }) sX mX ([.ref (P 0), .int (iI (row)), .int (iI (sl)), .int (iI (w)), .int (iI (p))] : List Value).toArray bX tX cX 6 g AX (mheap g P σ) 0 0 73 [some (.ref (P 0)), some (.int (iI (row))), some (.int (iI (sl))), some (.int (iI (w))), some (.int (iI (p))), some (.int (iI (bI (aR_ok row sl w p))))] [.int (iI (aR_c σ row sl w p)), .ref (P 0)] (pV (some (.int (iI (aR_a σ row sl w p)))) (mheap g P (aR_s σ row sl w p))) (noX) 0 0 := by
      have rc := aR_c_rng σ row sl w p
      refine v_callVp F (pc := 73) (As := [.int (iI (aR_c σ row sl w p))]) (rest := []) ci_X5_84 ct_X5_isFine cs_X5_isFine (k_X5_isFine l g hP hB (aR_c σ row sl w p) (by omega)) dX5_addRack_73 (k0 := 8) rfl rfl (mh_0 hP) rfl rfl (Nat.le_of_ble_eq_true rfl) (Nat.le_of_ble_eq_true rfl) (Nat.le_of_ble_eq_true rfl) (Nat.le_of_ble_eq_true rfl) (Nat.le_of_ble_eq_true rfl) ?_ (fun _ _ z => z.elim)
      have hB_3 : MB (su σ 0 0 (aR_c σ row sl w p)) := mb_su hB (show (0 : Int) ≤ aR_c σ row sl w p ∧ aR_c σ row sl w p ≤ (3 : Int) from by omega)
      refine v_if_neB F (pc := 76) (b := (decide (aR_c σ row sl w p = 0))) 81 dX5_addRack_76 (by decide) (fun c_4 => ?_) (fun c_4 => ?_)
      · have c0 := of_decide_eq_true c_4
        have f0 := aR_c0 c0
        refine v_aload_n F (pc := 81) dX5_addRack_81 rfl ?_
        refine v_getf F (pc := 82) fd_X5_7_8 (v := .ref (P 1)) dX5_addRack_82 (mh_0 hP) rfl ?_
        refine v_aload_n F (pc := 85) dX5_addRack_85 rfl ?_
        refine v_getf F (pc := 86) fd_X5_66_8 (v := .int (iI (σ 5 0))) dX5_addRack_86 (mh_0 hP) rfl ?_
        have b_5 : (0 : Int) ≤ σ 5 0 ∧ σ 5 0 ≤ (8 : Int) := hB 5 0 (by decide) (by decide)
        refine v_iload_n F (pc := 89) dX5_addRack_89 rfl ?_
        refine v_iast F (pc := 90) (n := 8) (f := σ 1) (z := σ 5 0) (x := row) dX5_addRack_90 (mh_1 hP) (by omega) (by decide)  (h' := mheap g P (su (su σ 0 0 (aR_c σ row sl w p)) 1 (σ 5 0) row)) (mu_1 hP (σ 5 0) row) ?_
        have hB_6 : MB (su (su σ 0 0 (aR_c σ row sl w p)) 1 (σ 5 0) row) := mb_su hB_3 (show (0 : Int) ≤ row ∧ row ≤ (3 : Int) from by omega)
        refine v_aload_n F (pc := 91) dX5_addRack_91 rfl ?_
        refine v_getf F (pc := 92) fd_X5_13_8 (v := .ref (P 2)) dX5_addRack_92 (mh_0 hP) rfl ?_
        refine v_aload_n F (pc := 95) dX5_addRack_95 rfl ?_
        refine v_getf F (pc := 96) fd_X5_66_8 (v := .int (iI (σ 5 0))) dX5_addRack_96 (mh_0 hP) rfl ?_
        have b_7 : (0 : Int) ≤ σ 5 0 ∧ σ 5 0 ≤ (8 : Int) := hB 5 0 (by decide) (by decide)
        refine v_iload_n F (pc := 99) dX5_addRack_99 rfl ?_
        refine v_iast F (pc := 100) (n := 8) (f := σ 2) (z := σ 5 0) (x := sl) dX5_addRack_100 (mh_2 hP) (by omega) (by decide)  (h' := mheap g P (su (su (su σ 0 0 (aR_c σ row sl w p)) 1 (σ 5 0) row) 2 (σ 5 0) sl)) (mu_2 hP (σ 5 0) sl) ?_
        have hB_8 : MB (su (su (su σ 0 0 (aR_c σ row sl w p)) 1 (σ 5 0) row) 2 (σ 5 0) sl) := mb_su hB_6 (show (0 : Int) ≤ sl ∧ sl ≤ (20 : Int) from by omega)
        refine v_aload_n F (pc := 101) dX5_addRack_101 rfl ?_
        refine v_getf F (pc := 102) fd_X5_16_8 (v := .ref (P 3)) dX5_addRack_102 (mh_0 hP) rfl ?_
        refine v_aload_n F (pc := 105) dX5_addRack_105 rfl ?_
        refine v_getf F (pc := 106) fd_X5_66_8 (v := .int (iI (σ 5 0))) dX5_addRack_106 (mh_0 hP) rfl ?_
        have b_9 : (0 : Int) ≤ σ 5 0 ∧ σ 5 0 ≤ (8 : Int) := hB 5 0 (by decide) (by decide)
        refine v_iload_n F (pc := 109) dX5_addRack_109 rfl ?_
        refine v_iast F (pc := 110) (n := 8) (f := σ 3) (z := σ 5 0) (x := w) dX5_addRack_110 (mh_3 hP) (by omega) (by decide)  (h' := mheap g P (su (su (su (su σ 0 0 (aR_c σ row sl w p)) 1 (σ 5 0) row) 2 (σ 5 0) sl) 3 (σ 5 0) w)) (mu_3 hP (σ 5 0) w) ?_
        have hB_10 : MB (su (su (su (su σ 0 0 (aR_c σ row sl w p)) 1 (σ 5 0) row) 2 (σ 5 0) sl) 3 (σ 5 0) w) := mb_su hB_8 (show (0 : Int) ≤ w ∧ w ≤ (10000 : Int) from by omega)
        refine v_aload_n F (pc := 111) dX5_addRack_111 rfl ?_
        refine v_getf F (pc := 112) fd_X5_19_8 (v := .ref (P 4)) dX5_addRack_112 (mh_0 hP) rfl ?_
        refine v_aload_n F (pc := 115) dX5_addRack_115 rfl ?_
        refine v_getf F (pc := 116) fd_X5_66_8 (v := .int (iI (σ 5 0))) dX5_addRack_116 (mh_0 hP) rfl ?_
        have b_11 : (0 : Int) ≤ σ 5 0 ∧ σ 5 0 ≤ (8 : Int) := hB 5 0 (by decide) (by decide)
        refine v_iload F (pc := 119) dX5_addRack_119 rfl ?_
        refine v_iast F (pc := 121) (n := 8) (f := σ 4) (z := σ 5 0) (x := p) dX5_addRack_121 (mh_4 hP) (by omega) (by decide)  (h' := mheap g P (su (su (su (su (su σ 0 0 (aR_c σ row sl w p)) 1 (σ 5 0) row) 2 (σ 5 0) sl) 3 (σ 5 0) w) 4 (σ 5 0) p)) (mu_4 hP (σ 5 0) p) ?_
        have hB_12 : MB (su (su (su (su (su σ 0 0 (aR_c σ row sl w p)) 1 (σ 5 0) row) 2 (σ 5 0) sl) 3 (σ 5 0) w) 4 (σ 5 0) p) := mb_su hB_10 (show (0 : Int) ≤ p ∧ p ≤ (10000 : Int) from by omega)
        refine v_aload_n F (pc := 122) dX5_addRack_122 rfl ?_
        refine v_dup F (pc := 123) dX5_addRack_123 rfl ?_
        refine v_getf F (pc := 124) fd_X5_66_8 (v := .int (iI (σ 5 0))) dX5_addRack_124 (mh_0 hP) rfl ?_
        have b_13 : (0 : Int) ≤ σ 5 0 ∧ σ 5 0 ≤ (8 : Int) := hB 5 0 (by decide) (by decide)
        refine v_iconst F (pc := 127) dX5_addRack_127 ?_
        refine v_iadd F (pc := 128) (a := σ 5 0) (b := 1) dX5_addRack_128 ?_
        refine v_putf F (pc := 129) fp_X5_66_8 dX5_addRack_129 (mh_0 hP) rfl rfl (Nat.le_of_ble_eq_true rfl) (h' := mheap g P (su (su (su (su (su (su σ 0 0 (aR_c σ row sl w p)) 1 (σ 5 0) row) 2 (σ 5 0) sl) 3 (σ 5 0) w) 4 (σ 5 0) p) 5 0 ((σ 5 0) + 1))) (mu_5 hP ((σ 5 0) + 1)) ?_
        have hB_14 : MB (su (su (su (su (su (su σ 0 0 (aR_c σ row sl w p)) 1 (σ 5 0) row) 2 (σ 5 0) sl) 3 (σ 5 0) w) 4 (σ 5 0) p) 5 0 ((σ 5 0) + 1)) := mb_su hB_12 (show (0 : Int) ≤ (σ 5 0) + 1 ∧ (σ 5 0) + 1 ≤ (8 : Int) from by omega)
        refine v_aload_n F (pc := 132) dX5_addRack_132 rfl ?_
        refine v_getf F (pc := 133) fd_X5_66_8 (v := .int (iI ((σ 5 0) + 1))) dX5_addRack_133 (mh_0 hP) rfl ?_
        have b_15 : (0 : Int) ≤ (σ 5 0) + 1 ∧ (σ 5 0) + 1 ≤ (8 : Int) := hB_14 5 0 (by decide) (by decide)
        refine v_iconst F (pc := 136) dX5_addRack_136 ?_
        refine v_isub F (pc := 137) (a := (σ 5 0) + 1) (b := 1) dX5_addRack_137 ?_
        refine v_iret F (pc := 138) (z := (iI (((σ 5 0) + 1) - 1))) dX5_addRack_138 rfl rfl (Nat.le_of_ble_eq_true rfl) (Nat.le_of_ble_eq_true rfl) ?_
        exact ⟨congrArg (fun z => some (Value.int (iI z))) (by rw [show aR_a σ row sl w p = σ 5 0 from if_pos c0]; omega), by rw [show aR_s σ row sl w p = su (su (su (su (su (su σ 0 0 (aR_c σ row sl w p)) 1 (σ 5 0) row) 2 (σ 5 0) sl) 3 (σ 5 0) w) 4 (σ 5 0) p) 5 0 (σ 5 0 + 1) from if_pos c0]⟩
      · have c1 := of_decide_eq_false c_4
        refine v_iconst F (pc := 79) dX5_addRack_79 ?_
        refine v_iret F (pc := 80) (z := (iI (0))) dX5_addRack_80 rfl rfl (Nat.le_of_ble_eq_true rfl) (Nat.le_of_ble_eq_true rfl) ?_
        exact ⟨by rw [show aR_a σ row sl w p = 0 from if_neg c1], by rw [show aR_s σ row sl w p = su σ 0 0 (aR_c σ row sl w p) from if_neg c1]⟩
    refine v_iload F (pc := 50) dX5_addRack_50 rfl ?_
    refine v_if_neB F (pc := 52) (b := (aR_ok row sl w p)) 59 dX5_addRack_52 (by decide) (fun c_16 => ?_) (fun c_16 => ?_)
    · refine v_aload_n F (pc := 59) dX5_addRack_59 rfl ?_
      refine v_getf F (pc := 60) fd_X5_66_8 (v := .int (iI (σ 5 0))) dX5_addRack_60 (mh_0 hP) rfl ?_
      have b_17 : (0 : Int) ≤ σ 5 0 ∧ σ 5 0 ≤ (8 : Int) := hB 5 0 (by decide) (by decide)
      refine v_bipush F (pc := 63) dX5_addRack_63 (by decide) ?_
      refine v_icmp_ne F (pc := 65) (a := σ 5 0) (b := 8) 72 dX5_addRack_65 (by decide) (by omega) (by omega) (fun c_18 => ?_) (fun c_18 => ?_)
      · refine v_iconst F (pc := 72) dX5_addRack_72 ?_
        have rc := aR_c_rng σ row sl w p
        exact V.to J_2 rfl rfl (by exact congrArg (fun z => Value.int (iI z) :: [.ref (P 0)]) (show (0 : Int) = aR_c σ row sl w p by simp only [aR_c]; (repeat' split) <;> first | rfl | omega | (exfalso; omega) | simp_all))
      · refine v_iconst F (pc := 68) dX5_addRack_68 ?_
        refine v_goto F (pc := 69) 73 dX5_addRack_69 (by decide) ?_
        have rc := aR_c_rng σ row sl w p
        exact V.to J_2 rfl rfl (by exact congrArg (fun z => Value.int (iI z) :: [.ref (P 0)]) (show (2 : Int) = aR_c σ row sl w p by simp only [aR_c]; (repeat' split) <;> first | rfl | omega | (exfalso; omega) | simp_all))
    · refine v_iconst F (pc := 55) dX5_addRack_55 ?_
      refine v_goto F (pc := 56) 73 dX5_addRack_56 (by decide) ?_
      have rc := aR_c_rng σ row sl w p
      exact V.to J_2 rfl rfl (by exact congrArg (fun z => Value.int (iI z) :: [.ref (P 0)]) (show (1 : Int) = aR_c σ row sl w p by simp only [aR_c]; (repeat' split) <;> first | rfl | omega | (exfalso; omega) | simp_all))
  refine v_iload_n F (pc := 0) dX5_addRack_0 rfl ?_
  refine v_iconst F (pc := 1) dX5_addRack_1 ?_
  refine v_iconst F (pc := 2) dX5_addRack_2 ?_
  refine v_callSp F (pc := 3) (As := [.int (iI (row)), .int (iI (0)), .int (iI (3))]) (rest := []) ci_X5_69 ct_X5_isIn (k_X5_isIn l g row 0 3 (by omega) (by omega) (by omega)) dX5_addRack_3 rfl rfl (Nat.le_of_ble_eq_true rfl) (Nat.le_of_ble_eq_true rfl) (Nat.le_of_ble_eq_true rfl) (Nat.le_of_ble_eq_true rfl) (Nat.le_of_ble_eq_true rfl) ?_ (fun _ _ z => z.elim)
  refine v_if_eqB F (pc := 6) (b := (inn row 0 3)) 46 dX5_addRack_6 (by decide) (fun c_19 => ?_) (fun c_19 => ?_)
  · refine v_iconst F (pc := 46) dX5_addRack_46 ?_
    exact V.to J_1 rfl rfl (by exact congrArg (fun z => Value.int (iI z) :: []) (show (0 : Int) = bI (aR_ok row sl w p) by simp only [aR_ok]; simp_all [bI]))
  · refine v_iload_n F (pc := 9) dX5_addRack_9 rfl ?_
    refine v_iconst F (pc := 10) dX5_addRack_10 ?_
    refine v_bipush F (pc := 11) dX5_addRack_11 (by decide) ?_
    refine v_callSp F (pc := 13) (As := [.int (iI (sl)), .int (iI (1)), .int (iI (20))]) (rest := []) ci_X5_69 ct_X5_isIn (k_X5_isIn l g sl 1 20 (by omega) (by omega) (by omega)) dX5_addRack_13 rfl rfl (Nat.le_of_ble_eq_true rfl) (Nat.le_of_ble_eq_true rfl) (Nat.le_of_ble_eq_true rfl) (Nat.le_of_ble_eq_true rfl) (Nat.le_of_ble_eq_true rfl) ?_ (fun _ _ z => z.elim)
    refine v_if_eqB F (pc := 16) (b := (inn sl 1 20)) 46 dX5_addRack_16 (by decide) (fun c_20 => ?_) (fun c_20 => ?_)
    · refine v_iconst F (pc := 46) dX5_addRack_46 ?_
      exact V.to J_1 rfl rfl (by exact congrArg (fun z => Value.int (iI z) :: []) (show (0 : Int) = bI (aR_ok row sl w p) by simp only [aR_ok]; simp_all [bI]))
    · refine v_iload_n F (pc := 19) dX5_addRack_19 rfl ?_
      refine v_iconst F (pc := 20) dX5_addRack_20 ?_
      refine v_sipush F (pc := 21) dX5_addRack_21 (by decide) ?_
      refine v_callSp F (pc := 24) (As := [.int (iI (w)), .int (iI (0)), .int (iI (10000))]) (rest := []) ci_X5_69 ct_X5_isIn (k_X5_isIn l g w 0 10000 (by omega) (by omega) (by omega)) dX5_addRack_24 rfl rfl (Nat.le_of_ble_eq_true rfl) (Nat.le_of_ble_eq_true rfl) (Nat.le_of_ble_eq_true rfl) (Nat.le_of_ble_eq_true rfl) (Nat.le_of_ble_eq_true rfl) ?_ (fun _ _ z => z.elim)
      refine v_if_eqB F (pc := 27) (b := (inn w 0 10000)) 46 dX5_addRack_27 (by decide) (fun c_21 => ?_) (fun c_21 => ?_)
      · refine v_iconst F (pc := 46) dX5_addRack_46 ?_
        exact V.to J_1 rfl rfl (by exact congrArg (fun z => Value.int (iI z) :: []) (show (0 : Int) = bI (aR_ok row sl w p) by simp only [aR_ok]; simp_all [bI]))
      · refine v_iload F (pc := 30) dX5_addRack_30 rfl ?_
        refine v_iconst F (pc := 32) dX5_addRack_32 ?_
        refine v_sipush F (pc := 33) dX5_addRack_33 (by decide) ?_
        refine v_callSp F (pc := 36) (As := [.int (iI (p)), .int (iI (0)), .int (iI (10000))]) (rest := []) ci_X5_69 ct_X5_isIn (k_X5_isIn l g p 0 10000 (by omega) (by omega) (by omega)) dX5_addRack_36 rfl rfl (Nat.le_of_ble_eq_true rfl) (Nat.le_of_ble_eq_true rfl) (Nat.le_of_ble_eq_true rfl) (Nat.le_of_ble_eq_true rfl) (Nat.le_of_ble_eq_true rfl) ?_ (fun _ _ z => z.elim)
        refine v_if_eqB F (pc := 39) (b := (inn p 0 10000)) 46 dX5_addRack_39 (by decide) (fun c_22 => ?_) (fun c_22 => ?_)
        · refine v_iconst F (pc := 46) dX5_addRack_46 ?_
          exact V.to J_1 rfl rfl (by exact congrArg (fun z => Value.int (iI z) :: []) (show (0 : Int) = bI (aR_ok row sl w p) by simp only [aR_ok]; simp_all [bI]))
        · refine v_iconst F (pc := 42) dX5_addRack_42 ?_
          refine v_goto F (pc := 43) 47 dX5_addRack_43 (by decide) ?_
          exact V.to J_1 rfl rfl (by exact congrArg (fun z => Value.int (iI z) :: []) (show (1 : Int) = bI (aR_ok row sl w p) by simp only [aR_ok]; simp_all [bI]))
-- X5_setRow
set_option maxRecDepth 100000 in
set_option maxHeartbeats 8000000 in
theorem k_X5_setRow (l : Launch) (g : gT) {P : Nat → Nat} {σ : sT} (hP : mok P) (hB : MB σ) (row h w : Int) (hrow : -2147483648 ≤ row ∧ row ≤ 2147483647) (hh : -2147483648 ≤ h ∧ h ≤ 2147483647) (hw : -2147483648 ≤ w ∧ w ≤ 2147483647) : CM l g yX5_setRow cX5_setRow 5 none ({ frames := 3, cells := 0, slots := 0, locals := 66 }) [.ref (P 0), .int (iI (row)), .int (iI (h)), .int (iI (w))] (mheap g P σ) (pV none (mheap g P (sR_s σ row h w))) (noX) := by
  refine CM.of (lo := [some (.ref (P 0)), some (.int (iI (row))), some (.int (iI (h))), some (.int (iI (w))), none]) (by decide) (Nat.le_of_ble_eq_true rfl) (by simp [Value.category]) rfl ?_
  intro pX eX sX mX bX tX cX AX F htab hmn
  have F : Fx pX l sX mX ([.ref (P 0), .int (iI (row)), .int (iI (h)), .int (iI (w))] : List Value).toArray tX cX cX5_setRow 5 none RX5 g AX := F
  have bm : (0 : Int) ≤ σ 17 0 ∧ σ 17 0 ≤ (60 : Int) := mb_nm hB
  have br : (0 : Int) ≤ σ 5 0 ∧ σ 5 0 ≤ (8 : Int) := mb_nr hB
  have J_1 : VE pX l eX ({ frames := 3, cells := 0, slots := 0, locals := 66 }) sX mX ([.ref (P 0), .int (iI (row)), .int (iI (h)), .int (iI (w))] : List Value).toArray bX tX cX 5 g AX (mheap g P σ) 0 0 36 [some (.ref (P 0)), some (.int (iI (row))), some (.int (iI (h))), some (.int (iI (w))), none] [.int (iI (bI (sR_ok row h w)))] (pV none (mheap g P (sR_s σ row h w))) (noX) 0 0 := by
    refine v_istore F (pc := 36) (lo' := [some (.ref (P 0)), some (.int (iI (row))), some (.int (iI (h))), some (.int (iI (w))), some (.int (iI (bI (sR_ok row h w))))]) dX5_setRow_36 (Nat.le_of_ble_eq_true rfl) rfl ?_
    refine v_aload_n F (pc := 38) dX5_setRow_38 rfl ?_
    have J_2 : VE pX l eX ({ frames := 3, cells := 0, slots := 0, locals := 66 }) sX mX ([.ref (P 0), .int (iI (row)), .int (iI (h)), .int (iI (w))] : List Value).toArray bX tX cX 5 g AX (mheap g P σ) 0 0 71 [some (.ref (P 0)), some (.int (iI (row))), some (.int (iI (h))), some (.int (iI (w))), some (.int (iI (bI (sR_ok row h w))))] [.int (iI (sR_c σ row h w)), .ref (P 0)] (pV none (mheap g P (sR_s σ row h w))) (noX) 0 0 := by
      have rc := sR_c_rng σ row h w
      refine v_callVp F (pc := 71) (As := [.int (iI (sR_c σ row h w))]) (rest := []) ci_X5_84 ct_X5_isFine cs_X5_isFine (k_X5_isFine l g hP hB (sR_c σ row h w) (by omega)) dX5_setRow_71 (k0 := 8) rfl rfl (mh_0 hP) rfl rfl (Nat.le_of_ble_eq_true rfl) (Nat.le_of_ble_eq_true rfl) (Nat.le_of_ble_eq_true rfl) (Nat.le_of_ble_eq_true rfl) (Nat.le_of_ble_eq_true rfl) ?_ (fun _ _ z => z.elim)
      have hB_3 : MB (su σ 0 0 (sR_c σ row h w)) := mb_su hB (show (0 : Int) ≤ sR_c σ row h w ∧ sR_c σ row h w ≤ (3 : Int) from by omega)
      refine v_if_eqB F (pc := 74) (b := (decide (sR_c σ row h w = 0))) 91 dX5_setRow_74 (by decide) (fun c_4 => ?_) (fun c_4 => ?_)
      · have c1 := of_decide_eq_false c_4
        refine v_vret F (pc := 91) dX5_setRow_91 rfl (Nat.le_of_ble_eq_true rfl) (Nat.le_of_ble_eq_true rfl) ?_
        exact ⟨rfl, by rw [show sR_s σ row h w = su σ 0 0 (sR_c σ row h w) from if_neg c1]⟩
      · have c0 := of_decide_eq_true c_4
        have f0 := sR_c0 c0
        refine v_aload_n F (pc := 77) dX5_setRow_77 rfl ?_
        refine v_getf F (pc := 78) fd_X5_22_8 (v := .ref (P 6)) dX5_setRow_78 (mh_0 hP) rfl ?_
        refine v_iload_n F (pc := 81) dX5_setRow_81 rfl ?_
        refine v_iload_n F (pc := 82) dX5_setRow_82 rfl ?_
        refine v_iast F (pc := 83) (n := 4) (f := σ 6) (z := row) (x := h) dX5_setRow_83 (mh_6 hP) (by omega) (by decide)  (h' := mheap g P (su (su σ 0 0 (sR_c σ row h w)) 6 row h)) (mu_6 hP row h) ?_
        have hB_5 : MB (su (su σ 0 0 (sR_c σ row h w)) 6 row h) := mb_su hB_3 (show (0 : Int) ≤ h ∧ h ≤ (10000 : Int) from by omega)
        refine v_aload_n F (pc := 84) dX5_setRow_84 rfl ?_
        refine v_getf F (pc := 85) fd_X5_25_8 (v := .ref (P 7)) dX5_setRow_85 (mh_0 hP) rfl ?_
        refine v_iload_n F (pc := 88) dX5_setRow_88 rfl ?_
        refine v_iload_n F (pc := 89) dX5_setRow_89 rfl ?_
        refine v_iast F (pc := 90) (n := 4) (f := σ 7) (z := row) (x := w) dX5_setRow_90 (mh_7 hP) (by omega) (by decide)  (h' := mheap g P (su (su (su σ 0 0 (sR_c σ row h w)) 6 row h) 7 row w)) (mu_7 hP row w) ?_
        have hB_6 : MB (su (su (su σ 0 0 (sR_c σ row h w)) 6 row h) 7 row w) := mb_su hB_5 (show (0 : Int) ≤ w ∧ w ≤ (10000 : Int) from by omega)
        refine v_vret F (pc := 91) dX5_setRow_91 rfl (Nat.le_of_ble_eq_true rfl) (Nat.le_of_ble_eq_true rfl) ?_
        exact ⟨rfl, by rw [show sR_s σ row h w = su (su (su σ 0 0 (sR_c σ row h w)) 6 row h) 7 row w from if_pos c0]⟩
    refine v_iload F (pc := 39) dX5_setRow_39 rfl ?_
    refine v_if_neB F (pc := 41) (b := (sR_ok row h w)) 48 dX5_setRow_41 (by decide) (fun c_7 => ?_) (fun c_7 => ?_)
    · have okk := c_7
      have f9 : 0 ≤ row ∧ row ≤ 3 := by have q := c_7; unfold sR_ok at q; simp only [Bool.and_eq_true, inn_iff] at q; exact q.1.1
      refine v_aload_n F (pc := 48) dX5_setRow_48 rfl ?_
      refine v_iload_n F (pc := 49) dX5_setRow_49 rfl ?_
      refine v_callVp F (pc := 50) (As := [.int (iI (row))]) (rest := [.ref (P 0)]) ci_X5_88 ct_X5_rowHeats cs_X5_rowHeats (k_X5_rowHeats l g hP hB row (by omega)) dX5_setRow_50 (k0 := 8) rfl rfl (mh_0 hP) rfl rfl (Nat.le_of_ble_eq_true rfl) (Nat.le_of_ble_eq_true rfl) (Nat.le_of_ble_eq_true rfl) (Nat.le_of_ble_eq_true rfl) (Nat.le_of_ble_eq_true rfl) ?_ (fun _ _ z => z.elim)
      have rg_8 := m_rowHeats_rng hB row
      refine v_iload_n F (pc := 53) dX5_setRow_53 rfl ?_
      refine v_icmp_gt F (pc := 54) (a := m_rowHeats σ row) (b := h) 66 dX5_setRow_54 (by decide) (by omega) (by omega) (fun c_9 => ?_) (fun c_9 => ?_)
      · refine v_iconst F (pc := 66) dX5_setRow_66 ?_
        refine v_goto F (pc := 67) 71 dX5_setRow_67 (by decide) ?_
        have rc := sR_c_rng σ row h w
        exact V.to J_2 rfl rfl (by exact congrArg (fun z => Value.int (iI z) :: [.ref (P 0)]) (show (2 : Int) = sR_c σ row h w by simp only [sR_c]; (repeat' split) <;> first | rfl | omega | (exfalso; omega) | simp_all))
      · refine v_aload_n F (pc := 57) dX5_setRow_57 rfl ?_
        refine v_iload_n F (pc := 58) dX5_setRow_58 rfl ?_
        refine v_callVp F (pc := 59) (As := [.int (iI (row))]) (rest := [.ref (P 0)]) ci_X5_91 ct_X5_rowWeighs cs_X5_rowWeighs (k_X5_rowWeighs l g hP hB row (by omega)) dX5_setRow_59 (k0 := 8) rfl rfl (mh_0 hP) rfl rfl (Nat.le_of_ble_eq_true rfl) (Nat.le_of_ble_eq_true rfl) (Nat.le_of_ble_eq_true rfl) (Nat.le_of_ble_eq_true rfl) (Nat.le_of_ble_eq_true rfl) ?_ (fun _ _ z => z.elim)
        have rg_10 := m_rowWeighs_rng hB row
        refine v_iload_n F (pc := 62) dX5_setRow_62 rfl ?_
        refine v_icmp_le F (pc := 63) (a := m_rowWeighs σ row) (b := w) 70 dX5_setRow_63 (by decide) (by omega) (by omega) (fun c_11 => ?_) (fun c_11 => ?_)
        · refine v_iconst F (pc := 70) dX5_setRow_70 ?_
          have rc := sR_c_rng σ row h w
          exact V.to J_2 rfl rfl (by exact congrArg (fun z => Value.int (iI z) :: [.ref (P 0)]) (show (0 : Int) = sR_c σ row h w by simp only [sR_c]; (repeat' split) <;> first | rfl | omega | (exfalso; omega) | simp_all))
        · refine v_iconst F (pc := 66) dX5_setRow_66 ?_
          refine v_goto F (pc := 67) 71 dX5_setRow_67 (by decide) ?_
          have rc := sR_c_rng σ row h w
          exact V.to J_2 rfl rfl (by exact congrArg (fun z => Value.int (iI z) :: [.ref (P 0)]) (show (2 : Int) = sR_c σ row h w by simp only [sR_c]; (repeat' split) <;> first | rfl | omega | (exfalso; omega) | simp_all))
    · refine v_iconst F (pc := 44) dX5_setRow_44 ?_
      refine v_goto F (pc := 45) 71 dX5_setRow_45 (by decide) ?_
      have rc := sR_c_rng σ row h w
      exact V.to J_2 rfl rfl (by exact congrArg (fun z => Value.int (iI z) :: [.ref (P 0)]) (show (1 : Int) = sR_c σ row h w by simp only [sR_c]; (repeat' split) <;> first | rfl | omega | (exfalso; omega) | simp_all))
  refine v_iload_n F (pc := 0) dX5_setRow_0 rfl ?_
  refine v_iconst F (pc := 1) dX5_setRow_1 ?_
  refine v_iconst F (pc := 2) dX5_setRow_2 ?_
  refine v_callSp F (pc := 3) (As := [.int (iI (row)), .int (iI (0)), .int (iI (3))]) (rest := []) ci_X5_69 ct_X5_isIn (k_X5_isIn l g row 0 3 (by omega) (by omega) (by omega)) dX5_setRow_3 rfl rfl (Nat.le_of_ble_eq_true rfl) (Nat.le_of_ble_eq_true rfl) (Nat.le_of_ble_eq_true rfl) (Nat.le_of_ble_eq_true rfl) (Nat.le_of_ble_eq_true rfl) ?_ (fun _ _ z => z.elim)
  refine v_if_eqB F (pc := 6) (b := (inn row 0 3)) 35 dX5_setRow_6 (by decide) (fun c_12 => ?_) (fun c_12 => ?_)
  · refine v_iconst F (pc := 35) dX5_setRow_35 ?_
    exact V.to J_1 rfl rfl (by exact congrArg (fun z => Value.int (iI z) :: []) (show (0 : Int) = bI (sR_ok row h w) by simp only [sR_ok]; simp_all [bI]))
  · refine v_iload_n F (pc := 9) dX5_setRow_9 rfl ?_
    refine v_iconst F (pc := 10) dX5_setRow_10 ?_
    refine v_sipush F (pc := 11) dX5_setRow_11 (by decide) ?_
    refine v_callSp F (pc := 14) (As := [.int (iI (h)), .int (iI (0)), .int (iI (10000))]) (rest := []) ci_X5_69 ct_X5_isIn (k_X5_isIn l g h 0 10000 (by omega) (by omega) (by omega)) dX5_setRow_14 rfl rfl (Nat.le_of_ble_eq_true rfl) (Nat.le_of_ble_eq_true rfl) (Nat.le_of_ble_eq_true rfl) (Nat.le_of_ble_eq_true rfl) (Nat.le_of_ble_eq_true rfl) ?_ (fun _ _ z => z.elim)
    refine v_if_eqB F (pc := 17) (b := (inn h 0 10000)) 35 dX5_setRow_17 (by decide) (fun c_13 => ?_) (fun c_13 => ?_)
    · refine v_iconst F (pc := 35) dX5_setRow_35 ?_
      exact V.to J_1 rfl rfl (by exact congrArg (fun z => Value.int (iI z) :: []) (show (0 : Int) = bI (sR_ok row h w) by simp only [sR_ok]; simp_all [bI]))
    · refine v_iload_n F (pc := 20) dX5_setRow_20 rfl ?_
      refine v_iconst F (pc := 21) dX5_setRow_21 ?_
      refine v_sipush F (pc := 22) dX5_setRow_22 (by decide) ?_
      refine v_callSp F (pc := 25) (As := [.int (iI (w)), .int (iI (0)), .int (iI (10000))]) (rest := []) ci_X5_69 ct_X5_isIn (k_X5_isIn l g w 0 10000 (by omega) (by omega) (by omega)) dX5_setRow_25 rfl rfl (Nat.le_of_ble_eq_true rfl) (Nat.le_of_ble_eq_true rfl) (Nat.le_of_ble_eq_true rfl) (Nat.le_of_ble_eq_true rfl) (Nat.le_of_ble_eq_true rfl) ?_ (fun _ _ z => z.elim)
      refine v_if_eqB F (pc := 28) (b := (inn w 0 10000)) 35 dX5_setRow_28 (by decide) (fun c_14 => ?_) (fun c_14 => ?_)
      · refine v_iconst F (pc := 35) dX5_setRow_35 ?_
        exact V.to J_1 rfl rfl (by exact congrArg (fun z => Value.int (iI z) :: []) (show (0 : Int) = bI (sR_ok row h w) by simp only [sR_ok]; simp_all [bI]))
      · refine v_iconst F (pc := 31) dX5_setRow_31 ?_
        refine v_goto F (pc := 32) 36 dX5_setRow_32 (by decide) ?_
        exact V.to J_1 rfl rfl (by exact congrArg (fun z => Value.int (iI z) :: []) (show (1 : Int) = bI (sR_ok row h w) by simp only [sR_ok]; simp_all [bI]))
-- X5_setFeed
set_option maxRecDepth 100000 in
set_option maxHeartbeats 8000000 in
theorem k_X5_setFeed (l : Launch) (g : gT) {P : Nat → Nat} {σ : sT} (hP : mok P) (hB : MB σ) (f p : Int) (hf : -2147483648 ≤ f ∧ f ≤ 2147483647) (hp : -2147483648 ≤ p ∧ p ≤ 2147483647) : CM l g yX5_setFeed cX5_setFeed 5 (some .int) ({ frames := 3, cells := 0, slots := 0, locals := 66 }) [.ref (P 0), .int (iI (f)), .int (iI (p))] (mheap g P σ) (pV (some (.int (iI (sF_a σ f p)))) (mheap g P (sF_s σ f p))) (noX) := by
  refine CM.of (lo := [some (.ref (P 0)), some (.int (iI (f))), some (.int (iI (p))), none, none]) (by decide) (Nat.le_of_ble_eq_true rfl) (by simp [Value.category]) rfl ?_
  intro pX eX sX mX bX tX cX AX F htab hmn
  have F : Fx pX l sX mX ([.ref (P 0), .int (iI (f)), .int (iI (p))] : List Value).toArray tX cX cX5_setFeed 5 (some .int) RX5 g AX := F
  have bm : (0 : Int) ≤ σ 17 0 ∧ σ 17 0 ≤ (60 : Int) := mb_nm hB
  have br : (0 : Int) ≤ σ 5 0 ∧ σ 5 0 ≤ (8 : Int) := mb_nr hB
  have J_1 : VE pX l eX ({ frames := 3, cells := 0, slots := 0, locals := 66 }) sX mX ([.ref (P 0), .int (iI (f)), .int (iI (p))] : List Value).toArray bX tX cX 5 g AX (mheap g P σ) 0 0 25 [some (.ref (P 0)), some (.int (iI (f))), some (.int (iI (p))), none, none] [.int (iI (bI (sF_ok f p)))] (pV (some (.int (iI (sF_a σ f p)))) (mheap g P (sF_s σ f p))) (noX) 0 0 := by
    refine v_istore_n F (pc := 25) (lo' := [some (.ref (P 0)), some (.int (iI (f))), some (.int (iI (p))), some (.int (iI (bI (sF_ok f p)))), none]) dX5_setFeed_25 (Nat.le_of_ble_eq_true rfl) rfl ?_
    refine v_aload_n F (pc := 26) dX5_setFeed_26 rfl ?_
    have J_2 : VE pX l eX ({ frames := 3, cells := 0, slots := 0, locals := 66 }) sX mX ([.ref (P 0), .int (iI (f)), .int (iI (p))] : List Value).toArray bX tX cX 5 g AX (mheap g P σ) 0 0 50 [some (.ref (P 0)), some (.int (iI (f))), some (.int (iI (p))), some (.int (iI (bI (sF_ok f p)))), none] [.int (iI (sF_c σ f p)), .ref (P 0)] (pV (some (.int (iI (sF_a σ f p)))) (mheap g P (sF_s σ f p))) (noX) 0 0 := by
      have rc := sF_c_rng σ f p
      refine v_callVp F (pc := 50) (As := [.int (iI (sF_c σ f p))]) (rest := []) ci_X5_84 ct_X5_isFine cs_X5_isFine (k_X5_isFine l g hP hB (sF_c σ f p) (by omega)) dX5_setFeed_50 (k0 := 8) rfl rfl (mh_0 hP) rfl rfl (Nat.le_of_ble_eq_true rfl) (Nat.le_of_ble_eq_true rfl) (Nat.le_of_ble_eq_true rfl) (Nat.le_of_ble_eq_true rfl) (Nat.le_of_ble_eq_true rfl) ?_ (fun _ _ z => z.elim)
      have hB_3 : MB (su σ 0 0 (sF_c σ f p)) := mb_su hB (show (0 : Int) ≤ sF_c σ f p ∧ sF_c σ f p ≤ (3 : Int) from by omega)
      refine v_if_neB F (pc := 53) (b := (decide (sF_c σ f p = 0))) 58 dX5_setFeed_53 (by decide) (fun c_4 => ?_) (fun c_4 => ?_)
      · have c0 := of_decide_eq_true c_4
        have f0 := sF_c0 c0
        refine v_aload_n F (pc := 58) dX5_setFeed_58 rfl ?_
        refine v_getf F (pc := 59) fd_X5_28_8 (v := .ref (P 8)) dX5_setFeed_59 (mh_0 hP) rfl ?_
        refine v_iload_n F (pc := 62) dX5_setFeed_62 rfl ?_
        refine v_iald F (pc := 63) (n := 2) (f := σ 8) (z := f) dX5_setFeed_63 (mh_8 hP) (by omega) (by decide) ?_
        have b_5 : (0 : Int) ≤ (σ 8) f ∧ (σ 8) f ≤ (20000 : Int) := hB 8 f (by omega) (show f < (2 : Int) by omega)
        refine v_istore F (pc := 64) (lo' := [some (.ref (P 0)), some (.int (iI (f))), some (.int (iI (p))), some (.int (iI (bI (sF_ok f p)))), some (.int (iI ((σ 8) f)))]) dX5_setFeed_64 (Nat.le_of_ble_eq_true rfl) rfl ?_
        refine v_aload_n F (pc := 66) dX5_setFeed_66 rfl ?_
        refine v_getf F (pc := 67) fd_X5_28_8 (v := .ref (P 8)) dX5_setFeed_67 (mh_0 hP) rfl ?_
        refine v_iload_n F (pc := 70) dX5_setFeed_70 rfl ?_
        refine v_iload_n F (pc := 71) dX5_setFeed_71 rfl ?_
        refine v_iast F (pc := 72) (n := 2) (f := σ 8) (z := f) (x := p) dX5_setFeed_72 (mh_8 hP) (by omega) (by decide)  (h' := mheap g P (su (su σ 0 0 (sF_c σ f p)) 8 f p)) (mu_8 hP f p) ?_
        have hB_6 : MB (su (su σ 0 0 (sF_c σ f p)) 8 f p) := mb_su hB_3 (show (0 : Int) ≤ p ∧ p ≤ (20000 : Int) from by omega)
        refine v_iload F (pc := 73) dX5_setFeed_73 rfl ?_
        refine v_iret F (pc := 75) (z := (iI ((σ 8) f))) dX5_setFeed_75 rfl rfl (Nat.le_of_ble_eq_true rfl) (Nat.le_of_ble_eq_true rfl) ?_
        exact ⟨by rw [show sF_a σ f p = σ 8 f from if_pos c0], by rw [show sF_s σ f p = su (su σ 0 0 (sF_c σ f p)) 8 f p from if_pos c0]⟩
      · have c1 := of_decide_eq_false c_4
        refine v_iconst F (pc := 56) dX5_setFeed_56 ?_
        refine v_iret F (pc := 57) (z := (iI (0))) dX5_setFeed_57 rfl rfl (Nat.le_of_ble_eq_true rfl) (Nat.le_of_ble_eq_true rfl) ?_
        exact ⟨by rw [show sF_a σ f p = 0 from if_neg c1], by rw [show sF_s σ f p = su σ 0 0 (sF_c σ f p) from if_neg c1]⟩
    refine v_iload_n F (pc := 27) dX5_setFeed_27 rfl ?_
    refine v_if_neB F (pc := 28) (b := (sF_ok f p)) 35 dX5_setFeed_28 (by decide) (fun c_7 => ?_) (fun c_7 => ?_)
    · refine v_aload_n F (pc := 35) dX5_setFeed_35 rfl ?_
      refine v_iconst F (pc := 36) dX5_setFeed_36 ?_
      refine v_iload_n F (pc := 37) dX5_setFeed_37 rfl ?_
      refine v_callVp F (pc := 38) (As := [.int (iI (-1)), .int (iI (f))]) (rest := [.ref (P 0)]) ci_X5_94 ct_X5_worst cs_X5_worst (k_X5_worst l g hP hB (-1) f (by omega) (by omega)) dX5_setFeed_38 (k0 := 8) rfl rfl (mh_0 hP) rfl rfl (Nat.le_of_ble_eq_true rfl) (Nat.le_of_ble_eq_true rfl) (Nat.le_of_ble_eq_true rfl) (Nat.le_of_ble_eq_true rfl) (Nat.le_of_ble_eq_true rfl) ?_ (fun _ _ z => z.elim)
      have rg_8 := m_worst_rng hB (-1) f
      refine v_iload_n F (pc := 41) dX5_setFeed_41 rfl ?_
      refine v_icmp_le F (pc := 42) (a := m_worst σ (-1) f) (b := p) 49 dX5_setFeed_42 (by decide) (by omega) (by omega) (fun c_9 => ?_) (fun c_9 => ?_)
      · refine v_iconst F (pc := 49) dX5_setFeed_49 ?_
        have rc := sF_c_rng σ f p
        exact V.to J_2 rfl rfl (by exact congrArg (fun z => Value.int (iI z) :: [.ref (P 0)]) (show (0 : Int) = sF_c σ f p by simp only [sF_c]; (repeat' split) <;> first | rfl | omega | (exfalso; omega) | simp_all))
      · refine v_iconst F (pc := 45) dX5_setFeed_45 ?_
        refine v_goto F (pc := 46) 50 dX5_setFeed_46 (by decide) ?_
        have rc := sF_c_rng σ f p
        exact V.to J_2 rfl rfl (by exact congrArg (fun z => Value.int (iI z) :: [.ref (P 0)]) (show (2 : Int) = sF_c σ f p by simp only [sF_c]; (repeat' split) <;> first | rfl | omega | (exfalso; omega) | simp_all))
    · refine v_iconst F (pc := 31) dX5_setFeed_31 ?_
      refine v_goto F (pc := 32) 50 dX5_setFeed_32 (by decide) ?_
      have rc := sF_c_rng σ f p
      exact V.to J_2 rfl rfl (by exact congrArg (fun z => Value.int (iI z) :: [.ref (P 0)]) (show (1 : Int) = sF_c σ f p by simp only [sF_c]; (repeat' split) <;> first | rfl | omega | (exfalso; omega) | simp_all))
  refine v_iload_n F (pc := 0) dX5_setFeed_0 rfl ?_
  refine v_iconst F (pc := 1) dX5_setFeed_1 ?_
  refine v_iconst F (pc := 2) dX5_setFeed_2 ?_
  refine v_callSp F (pc := 3) (As := [.int (iI (f)), .int (iI (0)), .int (iI (1))]) (rest := []) ci_X5_69 ct_X5_isIn (k_X5_isIn l g f 0 1 (by omega) (by omega) (by omega)) dX5_setFeed_3 rfl rfl (Nat.le_of_ble_eq_true rfl) (Nat.le_of_ble_eq_true rfl) (Nat.le_of_ble_eq_true rfl) (Nat.le_of_ble_eq_true rfl) (Nat.le_of_ble_eq_true rfl) ?_ (fun _ _ z => z.elim)
  refine v_if_eqB F (pc := 6) (b := (inn f 0 1)) 24 dX5_setFeed_6 (by decide) (fun c_10 => ?_) (fun c_10 => ?_)
  · refine v_iconst F (pc := 24) dX5_setFeed_24 ?_
    exact V.to J_1 rfl rfl (by exact congrArg (fun z => Value.int (iI z) :: []) (show (0 : Int) = bI (sF_ok f p) by simp only [sF_ok]; simp_all [bI]))
  · refine v_iload_n F (pc := 9) dX5_setFeed_9 rfl ?_
    refine v_iconst F (pc := 10) dX5_setFeed_10 ?_
    refine v_sipush F (pc := 11) dX5_setFeed_11 (by decide) ?_
    refine v_callSp F (pc := 14) (As := [.int (iI (p)), .int (iI (0)), .int (iI (20000))]) (rest := []) ci_X5_69 ct_X5_isIn (k_X5_isIn l g p 0 20000 (by omega) (by omega) (by omega)) dX5_setFeed_14 rfl rfl (Nat.le_of_ble_eq_true rfl) (Nat.le_of_ble_eq_true rfl) (Nat.le_of_ble_eq_true rfl) (Nat.le_of_ble_eq_true rfl) (Nat.le_of_ble_eq_true rfl) ?_ (fun _ _ z => z.elim)
    refine v_if_eqB F (pc := 17) (b := (inn p 0 20000)) 24 dX5_setFeed_17 (by decide) (fun c_11 => ?_) (fun c_11 => ?_)
    · refine v_iconst F (pc := 24) dX5_setFeed_24 ?_
      exact V.to J_1 rfl rfl (by exact congrArg (fun z => Value.int (iI z) :: []) (show (0 : Int) = bI (sF_ok f p) by simp only [sF_ok]; simp_all [bI]))
    · refine v_iconst F (pc := 20) dX5_setFeed_20 ?_
      refine v_goto F (pc := 21) 25 dX5_setFeed_21 (by decide) ?_
      exact V.to J_1 rfl rfl (by exact congrArg (fun z => Value.int (iI z) :: []) (show (1 : Int) = bI (sF_ok f p) by simp only [sF_ok]; simp_all [bI]))
-- X5_switchFeed
set_option maxRecDepth 100000 in
set_option maxHeartbeats 8000000 in
theorem k_X5_switchFeed (l : Launch) (g : gT) {P : Nat → Nat} {σ : sT} (hP : mok P) (hB : MB σ) (f : Int) (hf : -2147483648 ≤ f ∧ f ≤ 2147483647) : CM l g yX5_switchFeed cX5_switchFeed 4 (some .int) ({ frames := 3, cells := 0, slots := 0, locals := 62 }) [.ref (P 0), .int (iI (f))] (mheap g P σ) (pV (some (.int (iI (wF_a σ f)))) (mheap g P (wF_s σ f))) (noX) := by
  refine CM.of (lo := [some (.ref (P 0)), some (.int (iI (f))), none, none]) (by decide) (Nat.le_of_ble_eq_true rfl) (by simp [Value.category]) rfl ?_
  intro pX eX sX mX bX tX cX AX F htab hmn
  have F : Fx pX l sX mX ([.ref (P 0), .int (iI (f))] : List Value).toArray tX cX cX5_switchFeed 4 (some .int) RX5 g AX := F
  have bm : (0 : Int) ≤ σ 17 0 ∧ σ 17 0 ≤ (60 : Int) := mb_nm hB
  have br : (0 : Int) ≤ σ 5 0 ∧ σ 5 0 ≤ (8 : Int) := mb_nr hB
  refine v_aload_n F (pc := 0) dX5_switchFeed_0 rfl ?_
  have J_1 : VE pX l eX ({ frames := 3, cells := 0, slots := 0, locals := 62 }) sX mX ([.ref (P 0), .int (iI (f))] : List Value).toArray bX tX cX 4 g AX (mheap g P σ) 0 0 15 [some (.ref (P 0)), some (.int (iI (f))), none, none] [.int (iI (c01 (inn f 0 1))), .ref (P 0)] (pV (some (.int (iI (wF_a σ f)))) (mheap g P (wF_s σ f))) (noX) 0 0 := by
    have rc := c01_rng (inn f 0 1)
    refine v_callVp F (pc := 15) (As := [.int (iI (c01 (inn f 0 1)))]) (rest := []) ci_X5_84 ct_X5_isFine cs_X5_isFine (k_X5_isFine l g hP hB (c01 (inn f 0 1)) (by omega)) dX5_switchFeed_15 (k0 := 8) rfl rfl (mh_0 hP) rfl rfl (Nat.le_of_ble_eq_true rfl) (Nat.le_of_ble_eq_true rfl) (Nat.le_of_ble_eq_true rfl) (Nat.le_of_ble_eq_true rfl) (Nat.le_of_ble_eq_true rfl) ?_ (fun _ _ z => z.elim)
    have hB_2 : MB (su σ 0 0 (c01 (inn f 0 1))) := mb_su hB (show (0 : Int) ≤ c01 (inn f 0 1) ∧ c01 (inn f 0 1) ≤ (3 : Int) from by omega)
    refine v_if_neB F (pc := 18) (b := (decide (c01 (inn f 0 1) = 0))) 23 dX5_switchFeed_18 (by decide) (fun c_3 => ?_) (fun c_3 => ?_)
    · have c0 := of_decide_eq_true c_3
      have f0 := inn_iff.mp (c01_0 c0)
      refine v_aload_n F (pc := 23) dX5_switchFeed_23 rfl ?_
      refine v_getf F (pc := 24) fd_X5_31_8 (v := .ref (P 9)) dX5_switchFeed_24 (mh_0 hP) rfl ?_
      refine v_iload_n F (pc := 27) dX5_switchFeed_27 rfl ?_
      have bf9 : (0 : Int) ≤ σ 9 f ∧ σ 9 f ≤ (1 : Int) := hB 9 f (by omega) (show f < (2 : Int) by omega)
      have J_4 : VE pX l eX ({ frames := 3, cells := 0, slots := 0, locals := 62 }) sX mX ([.ref (P 0), .int (iI (f))] : List Value).toArray bX tX cX 4 g AX (mheap g P (su σ 0 0 (c01 (inn f 0 1)))) 0 0 42 [some (.ref (P 0)), some (.int (iI (f))), none, none] [.int (iI (1 - σ 9 f)), .int (iI (f)), .ref (P 9)] (pV (some (.int (iI (wF_a σ f)))) (mheap g P (wF_s σ f))) (noX) 0 0 := by
        refine v_zast F (pc := 42) (n := 2) (f := σ 9) (z := f) (x := 1 - σ 9 f) dX5_switchFeed_42 (mh_9 hP) (by omega) (by decide) (by omega) (h' := mheap g P (su (su σ 0 0 (c01 (inn f 0 1))) 9 f (1 - σ 9 f))) (mu_9 hP f (1 - σ 9 f)) ?_
        have hB_5 : MB (su (su σ 0 0 (c01 (inn f 0 1))) 9 f (1 - σ 9 f)) := mb_su hB_2 (show (0 : Int) ≤ 1 - σ 9 f ∧ 1 - σ 9 f ≤ (1 : Int) from by omega)
        refine v_iconst F (pc := 43) dX5_switchFeed_43 ?_
        refine v_istore_n F (pc := 44) (lo' := [some (.ref (P 0)), some (.int (iI (f))), some (.int (iI (0))), none]) dX5_switchFeed_44 (Nat.le_of_ble_eq_true rfl) rfl ?_
        refine v_iconst F (pc := 45) dX5_switchFeed_45 ?_
        refine v_istore_n F (pc := 46) (lo' := [some (.ref (P 0)), some (.int (iI (f))), some (.int (iI (0))), some (.int (iI (0)))]) dX5_switchFeed_46 (Nat.le_of_ble_eq_true rfl) rfl ?_
        have LP47 : ∀ (N_ : Nat) (k : Int), (0 ≤ k) → (k ≤ (σ 17 0)) → ((σ 17 0) - k).toNat < N_ → VE pX l eX ({ frames := 3, cells := 0, slots := 0, locals := 62 }) sX mX ([.ref (P 0), .int (iI (f))] : List Value).toArray bX tX cX 4 g AX (mheap g P (su (su σ 0 0 (c01 (inn f 0 1))) 9 f (1 - σ 9 f))) 0 0 47 [some (.ref (P 0)), some (.int (iI (f))), some (.int (iI (sm (dk (su σ 9 f (1 - σ 9 f))) k))), some (.int (iI (k)))] [] (pV (some (.int (iI (wF_a σ f)))) (mheap g P (wF_s σ f))) (noX) 0 0 := by
          intro N_
          induction N_ with
          | zero => intro k _ _ hm_; exact absurd hm_ (Nat.not_lt_zero _)
          | succ N_ ih =>
            intro k hk0 hk1 hm_
            refine v_iload_n F (pc := 47) dX5_switchFeed_47 rfl ?_
            refine v_aload_n F (pc := 48) dX5_switchFeed_48 rfl ?_
            refine v_getf F (pc := 49) fd_X5_73_8 (v := .int (iI (σ 17 0))) dX5_switchFeed_49 (mh_0 hP) rfl ?_
            have b_6 : (0 : Int) ≤ σ 17 0 ∧ σ 17 0 ≤ (60 : Int) := hB 17 0 (by decide) (by decide)
            refine v_icmp_ge F (pc := 52) (a := k) (b := σ 17 0) 77 dX5_switchFeed_52 (by decide) (by omega) (by omega) (fun c_7 => ?_) (fun c_7 => ?_)
            · refine v_iload_n F (pc := 77) dX5_switchFeed_77 rfl ?_
              refine v_iret F (pc := 78) (z := (iI (sm (dk (su σ 9 f (1 - σ 9 f))) k))) dX5_switchFeed_78 rfl rfl (Nat.le_of_ble_eq_true rfl) (Nat.le_of_ble_eq_true rfl) ?_
              exact ⟨by rw [show wF_a σ f = sm (dk (su σ 9 f (1 - σ 9 f))) (σ 17 0) from if_pos c0, show k = σ 17 0 by omega], by rw [show wF_s σ f = su (su σ 0 0 (c01 (inn f 0 1))) 9 f (1 - σ 9 f) from if_pos c0]⟩
            · refine v_iload_n F (pc := 55) dX5_switchFeed_55 rfl ?_
              refine v_aload_n F (pc := 56) dX5_switchFeed_56 rfl ?_
              refine v_iload_n F (pc := 57) dX5_switchFeed_57 rfl ?_
              refine v_callVp F (pc := 58) (As := [.int (iI (k))]) (rest := [.int (iI (sm (dk (su σ 9 f (1 - σ 9 f))) k))]) ci_X5_98 ct_X5_isDarkAt cs_X5_isDarkAt (k_X5_isDarkAt l g hP hB_5 k (by omega)) dX5_switchFeed_58 (k0 := 8) rfl rfl (mh_0 hP) rfl rfl (Nat.le_of_ble_eq_true rfl) (Nat.le_of_ble_eq_true rfl) (Nat.le_of_ble_eq_true rfl) (Nat.le_of_ble_eq_true rfl) (Nat.le_of_ble_eq_true rfl) ?_ (fun _ _ z => z.elim)
              refine v_if_eqB F (pc := 61) (b := (m_dark (su σ 9 f (1 - σ 9 f)) k)) 68 dX5_switchFeed_61 (by decide) (fun c_8 => ?_) (fun c_8 => ?_)
              · refine v_iconst F (pc := 68) dX5_switchFeed_68 ?_
                refine v_iadd F (pc := 69) (a := sm (dk (su σ 9 f (1 - σ 9 f))) k) (b := 0) dX5_switchFeed_69 ?_
                refine v_istore_n F (pc := 70) (lo' := [some (.ref (P 0)), some (.int (iI (f))), some (.int (iI ((sm (dk (su σ 9 f (1 - σ 9 f))) k) + 0))), some (.int (iI (k)))]) dX5_switchFeed_70 (Nat.le_of_ble_eq_true rfl) rfl ?_
                refine v_iinc F (pc := 71) (lo' := [some (.ref (P 0)), some (.int (iI (f))), some (.int (iI ((sm (dk (su σ 9 f (1 - σ 9 f))) k) + 0))), some (.int (iI (k + 1)))]) dX5_switchFeed_71 rfl (Nat.le_of_ble_eq_true rfl) rfl ?_
                refine v_goto F (pc := 74) 47 dX5_switchFeed_74 (by decide) ?_
                have e_ : sm (dk (su σ 9 f (1 - σ 9 f))) (k + 1) = (sm (dk (su σ 9 f (1 - σ 9 f))) k) + 0 := by rw [sm_s _ hk0]; exact congrArg (fun z => sm (dk (su σ 9 f (1 - σ 9 f))) k + z) (show (dk (su σ 9 f (1 - σ 9 f))) k = 0 by simp only [dk]; split <;> first | omega | simp_all)
                have ih2 := ih (k + 1) (by omega) (by omega) (by omega)
                rw [e_] at ih2
                exact ih2
              · refine v_iconst F (pc := 64) dX5_switchFeed_64 ?_
                refine v_goto F (pc := 65) 69 dX5_switchFeed_65 (by decide) ?_
                refine v_iadd F (pc := 69) (a := sm (dk (su σ 9 f (1 - σ 9 f))) k) (b := 1) dX5_switchFeed_69 ?_
                refine v_istore_n F (pc := 70) (lo' := [some (.ref (P 0)), some (.int (iI (f))), some (.int (iI ((sm (dk (su σ 9 f (1 - σ 9 f))) k) + 1))), some (.int (iI (k)))]) dX5_switchFeed_70 (Nat.le_of_ble_eq_true rfl) rfl ?_
                refine v_iinc F (pc := 71) (lo' := [some (.ref (P 0)), some (.int (iI (f))), some (.int (iI ((sm (dk (su σ 9 f (1 - σ 9 f))) k) + 1))), some (.int (iI (k + 1)))]) dX5_switchFeed_71 rfl (Nat.le_of_ble_eq_true rfl) rfl ?_
                refine v_goto F (pc := 74) 47 dX5_switchFeed_74 (by decide) ?_
                have e_ : sm (dk (su σ 9 f (1 - σ 9 f))) (k + 1) = (sm (dk (su σ 9 f (1 - σ 9 f))) k) + 1 := by rw [sm_s _ hk0]; exact congrArg (fun z => sm (dk (su σ 9 f (1 - σ 9 f))) k + z) (show (dk (su σ 9 f (1 - σ 9 f))) k = 1 by simp only [dk]; split <;> first | omega | simp_all)
                have ih2 := ih (k + 1) (by omega) (by omega) (by omega)
                rw [e_] at ih2
                exact ih2
        exact LP47 _ 0 (Int.le_refl 0) (by omega) (Nat.lt_succ_self _)
      refine v_aload_n F (pc := 28) dX5_switchFeed_28 rfl ?_
      refine v_getf F (pc := 29) fd_X5_31_8 (v := .ref (P 9)) dX5_switchFeed_29 (mh_0 hP) rfl ?_
      refine v_iload_n F (pc := 32) dX5_switchFeed_32 rfl ?_
      refine v_zald F (pc := 33) (n := 2) (f := σ 9) (z := f) dX5_switchFeed_33 (mh_9 hP) (by omega) (by decide) ?_
      have b_9 : (0 : Int) ≤ (σ 9) f ∧ (σ 9) f ≤ (1 : Int) := hB 9 f (by omega) (show f < (2 : Int) by omega)
      refine v_if_ne F (pc := 34) (a := (σ 9) f) 41 dX5_switchFeed_34 (by decide) (by omega) (fun c_10 => ?_) (fun c_10 => ?_)
      · refine v_iconst F (pc := 41) dX5_switchFeed_41 ?_
        exact V.to J_4 rfl rfl (by rw [show (1 - σ 9 f : Int) = 0 by omega])
      · refine v_iconst F (pc := 37) dX5_switchFeed_37 ?_
        refine v_goto F (pc := 38) 42 dX5_switchFeed_38 (by decide) ?_
        exact V.to J_4 rfl rfl (by rw [show (1 - σ 9 f : Int) = 1 by omega])
    · have c1 := of_decide_eq_false c_3
      refine v_iconst F (pc := 21) dX5_switchFeed_21 ?_
      refine v_iret F (pc := 22) (z := (iI (0))) dX5_switchFeed_22 rfl rfl (Nat.le_of_ble_eq_true rfl) (Nat.le_of_ble_eq_true rfl) ?_
      exact ⟨by rw [show wF_a σ f = 0 from if_neg c1], by rw [show wF_s σ f = su σ 0 0 (c01 (inn f 0 1)) from if_neg c1]⟩
  refine v_iload_n F (pc := 1) dX5_switchFeed_1 rfl ?_
  refine v_iconst F (pc := 2) dX5_switchFeed_2 ?_
  refine v_iconst F (pc := 3) dX5_switchFeed_3 ?_
  refine v_callSp F (pc := 4) (As := [.int (iI (f)), .int (iI (0)), .int (iI (1))]) (rest := [.ref (P 0)]) ci_X5_69 ct_X5_isIn (k_X5_isIn l g f 0 1 (by omega) (by omega) (by omega)) dX5_switchFeed_4 rfl rfl (Nat.le_of_ble_eq_true rfl) (Nat.le_of_ble_eq_true rfl) (Nat.le_of_ble_eq_true rfl) (Nat.le_of_ble_eq_true rfl) (Nat.le_of_ble_eq_true rfl) ?_ (fun _ _ z => z.elim)
  refine v_if_eqB F (pc := 7) (b := (inn f 0 1)) 14 dX5_switchFeed_7 (by decide) (fun c_11 => ?_) (fun c_11 => ?_)
  · refine v_iconst F (pc := 14) dX5_switchFeed_14 ?_
    have rc := c01_rng (inn f 0 1)
    exact V.to J_1 rfl rfl (by exact congrArg (fun z => Value.int (iI z) :: [.ref (P 0)]) (show (1 : Int) = c01 (inn f 0 1) by simp only [c01]; (repeat' split) <;> first | rfl | omega | (exfalso; omega) | simp_all))
  · refine v_iconst F (pc := 10) dX5_switchFeed_10 ?_
    refine v_goto F (pc := 11) 15 dX5_switchFeed_11 (by decide) ?_
    have rc := c01_rng (inn f 0 1)
    exact V.to J_1 rfl rfl (by exact congrArg (fun z => Value.int (iI z) :: [.ref (P 0)]) (show (0 : Int) = c01 (inn f 0 1) by simp only [c01]; (repeat' split) <;> first | rfl | omega | (exfalso; omega) | simp_all))
-- X5_hasFailed
set_option maxRecDepth 100000 in
set_option maxHeartbeats 8000000 in
theorem k_X5_hasFailed (l : Launch) (g : gT) {P : Nat → Nat} {σ : sT} (hP : mok P) (hB : MB σ) (f : Int) (hf : -2147483648 ≤ f ∧ f ≤ 2147483647) : CM l g yX5_hasFailed cX5_hasFailed 2 (some .boolean) ({ frames := 2, cells := 0, slots := 0, locals := 42 }) [.ref (P 0), .int (iI (f))] (mheap g P σ) (pV (some (.int (iI (bI (decide (c01 (inn f 0 1) = 0) && decide (σ 9 f = 1)))))) (mheap g P (su σ 0 0 (c01 (inn f 0 1))))) (noX) := by
  refine CM.of (lo := [some (.ref (P 0)), some (.int (iI (f)))]) (by decide) (Nat.le_of_ble_eq_true rfl) (by simp [Value.category]) rfl ?_
  intro pX eX sX mX bX tX cX AX F htab hmn
  have F : Fx pX l sX mX ([.ref (P 0), .int (iI (f))] : List Value).toArray tX cX cX5_hasFailed 2 (some .boolean) RX5 g AX := F
  have bm : (0 : Int) ≤ σ 17 0 ∧ σ 17 0 ≤ (60 : Int) := mb_nm hB
  have br : (0 : Int) ≤ σ 5 0 ∧ σ 5 0 ≤ (8 : Int) := mb_nr hB
  refine v_aload_n F (pc := 0) dX5_hasFailed_0 rfl ?_
  have J_1 : VE pX l eX ({ frames := 2, cells := 0, slots := 0, locals := 42 }) sX mX ([.ref (P 0), .int (iI (f))] : List Value).toArray bX tX cX 2 g AX (mheap g P σ) 0 0 15 [some (.ref (P 0)), some (.int (iI (f)))] [.int (iI (c01 (inn f 0 1))), .ref (P 0)] (pV (some (.int (iI (bI (decide (c01 (inn f 0 1) = 0) && decide (σ 9 f = 1)))))) (mheap g P (su σ 0 0 (c01 (inn f 0 1))))) (noX) 0 0 := by
    have rc := c01_rng (inn f 0 1)
    refine v_callVp F (pc := 15) (As := [.int (iI (c01 (inn f 0 1)))]) (rest := []) ci_X5_84 ct_X5_isFine cs_X5_isFine (k_X5_isFine l g hP hB (c01 (inn f 0 1)) (by omega)) dX5_hasFailed_15 (k0 := 8) rfl rfl (mh_0 hP) rfl rfl (Nat.le_of_ble_eq_true rfl) (Nat.le_of_ble_eq_true rfl) (Nat.le_of_ble_eq_true rfl) (Nat.le_of_ble_eq_true rfl) (Nat.le_of_ble_eq_true rfl) ?_ (fun _ _ z => z.elim)
    have hB_2 : MB (su σ 0 0 (c01 (inn f 0 1))) := mb_su hB (show (0 : Int) ≤ c01 (inn f 0 1) ∧ c01 (inn f 0 1) ≤ (3 : Int) from by omega)
    refine v_if_eqB F (pc := 18) (b := (decide (c01 (inn f 0 1) = 0))) 34 dX5_hasFailed_18 (by decide) (fun c_3 => ?_) (fun c_3 => ?_)
    · have c1 := of_decide_eq_false c_3
      refine v_iconst F (pc := 34) dX5_hasFailed_34 ?_
      refine v_iret F (pc := 35) (z := (iI (0))) dX5_hasFailed_35 rfl (by first | rfl | exact nar_bI _ | decide) (Nat.le_of_ble_eq_true rfl) (Nat.le_of_ble_eq_true rfl) ?_
      exact ⟨congrArg (fun z => some (Value.int (iI z))) (show (0 : Int) = bI (decide (c01 (inn f 0 1) = 0) && decide (σ 9 f = 1)) by simp only [bI, Bool.and_eq_true, decide_eq_true_eq]; split <;> omega), rfl⟩
    · have c0 := of_decide_eq_true c_3
      have f0 := inn_iff.mp (c01_0 c0)
      refine v_aload_n F (pc := 21) dX5_hasFailed_21 rfl ?_
      refine v_getf F (pc := 22) fd_X5_31_8 (v := .ref (P 9)) dX5_hasFailed_22 (mh_0 hP) rfl ?_
      refine v_iload_n F (pc := 25) dX5_hasFailed_25 rfl ?_
      refine v_zald F (pc := 26) (n := 2) (f := σ 9) (z := f) dX5_hasFailed_26 (mh_9 hP) (by omega) (by decide) ?_
      have b_4 : (0 : Int) ≤ (σ 9) f ∧ (σ 9) f ≤ (1 : Int) := hB 9 f (by omega) (show f < (2 : Int) by omega)
      refine v_if_eq F (pc := 27) (a := (σ 9) f) 34 dX5_hasFailed_27 (by decide) (by omega) (fun c_5 => ?_) (fun c_5 => ?_)
      · refine v_iconst F (pc := 34) dX5_hasFailed_34 ?_
        refine v_iret F (pc := 35) (z := (iI (0))) dX5_hasFailed_35 rfl (by first | rfl | exact nar_bI _ | decide) (Nat.le_of_ble_eq_true rfl) (Nat.le_of_ble_eq_true rfl) ?_
        exact ⟨congrArg (fun z => some (Value.int (iI z))) (show (0 : Int) = bI (decide (c01 (inn f 0 1) = 0) && decide (σ 9 f = 1)) by simp only [bI, Bool.and_eq_true, decide_eq_true_eq]; split <;> omega), rfl⟩
      · refine v_iconst F (pc := 30) dX5_hasFailed_30 ?_
        refine v_goto F (pc := 31) 35 dX5_hasFailed_31 (by decide) ?_
        refine v_iret F (pc := 35) (z := (iI (1))) dX5_hasFailed_35 rfl (by first | rfl | exact nar_bI _ | decide) (Nat.le_of_ble_eq_true rfl) (Nat.le_of_ble_eq_true rfl) ?_
        exact ⟨congrArg (fun z => some (Value.int (iI z))) (show (1 : Int) = bI (decide (c01 (inn f 0 1) = 0) && decide (σ 9 f = 1)) by simp only [bI, Bool.and_eq_true, decide_eq_true_eq]; split <;> omega), rfl⟩
  refine v_iload_n F (pc := 1) dX5_hasFailed_1 rfl ?_
  refine v_iconst F (pc := 2) dX5_hasFailed_2 ?_
  refine v_iconst F (pc := 3) dX5_hasFailed_3 ?_
  refine v_callSp F (pc := 4) (As := [.int (iI (f)), .int (iI (0)), .int (iI (1))]) (rest := [.ref (P 0)]) ci_X5_69 ct_X5_isIn (k_X5_isIn l g f 0 1 (by omega) (by omega) (by omega)) dX5_hasFailed_4 rfl rfl (Nat.le_of_ble_eq_true rfl) (Nat.le_of_ble_eq_true rfl) (Nat.le_of_ble_eq_true rfl) (Nat.le_of_ble_eq_true rfl) (Nat.le_of_ble_eq_true rfl) ?_ (fun _ _ z => z.elim)
  refine v_if_eqB F (pc := 7) (b := (inn f 0 1)) 14 dX5_hasFailed_7 (by decide) (fun c_6 => ?_) (fun c_6 => ?_)
  · refine v_iconst F (pc := 14) dX5_hasFailed_14 ?_
    have rc := c01_rng (inn f 0 1)
    exact V.to J_1 rfl rfl (by exact congrArg (fun z => Value.int (iI z) :: [.ref (P 0)]) (show (1 : Int) = c01 (inn f 0 1) by simp only [c01]; (repeat' split) <;> first | rfl | omega | (exfalso; omega) | simp_all))
  · refine v_iconst F (pc := 10) dX5_hasFailed_10 ?_
    refine v_goto F (pc := 11) 15 dX5_hasFailed_11 (by decide) ?_
    have rc := c01_rng (inn f 0 1)
    exact V.to J_1 rfl rfl (by exact congrArg (fun z => Value.int (iI z) :: [.ref (P 0)]) (show (0 : Int) = c01 (inn f 0 1) by simp only [c01]; (repeat' split) <;> first | rfl | omega | (exfalso; omega) | simp_all))
-- X5_racks
set_option maxRecDepth 100000 in
set_option maxHeartbeats 8000000 in
theorem k_X5_racks (l : Launch) (g : gT) {P : Nat → Nat} {σ : sT} (hP : mok P) (hB : MB σ) : CM l g yX5_racks cX5_racks 1 (some .int) ({ frames := 1, cells := 0, slots := 0, locals := 20 }) [.ref (P 0)] (mheap g P σ) (pV (some (.int (iI (σ 5 0)))) (mheap g P (su σ 0 0 0))) (noX) := by
  refine CM.of (lo := [some (.ref (P 0))]) (by decide) (Nat.le_of_ble_eq_true rfl) (by simp [Value.category]) rfl ?_
  intro pX eX sX mX bX tX cX AX F htab hmn
  have F : Fx pX l sX mX ([.ref (P 0)] : List Value).toArray tX cX cX5_racks 1 (some .int) RX5 g AX := F
  refine v_aload_n F (pc := 0) dX5_racks_0 rfl ?_
  refine v_iconst F (pc := 1) dX5_racks_1 ?_
  refine v_putf F (pc := 2) fp_X5_62_8 dX5_racks_2 (mh_0 hP) rfl rfl (Nat.le_of_ble_eq_true rfl) (h' := mheap g P (su σ 0 0 0)) (mu_0 hP 0) ?_
  have hB_1 : MB (su σ 0 0 0) := mb_su hB (show (0 : Int) ≤ 0 ∧ 0 ≤ (3 : Int) from by omega)
  refine v_aload_n F (pc := 5) dX5_racks_5 rfl ?_
  refine v_getf F (pc := 6) fd_X5_66_8 (v := .int (iI (σ 5 0))) dX5_racks_6 (mh_0 hP) rfl ?_
  have b_2 : (0 : Int) ≤ σ 5 0 ∧ σ 5 0 ≤ (8 : Int) := hB 5 0 (by decide) (by decide)
  refine v_iret F (pc := 9) (z := (iI (σ 5 0))) dX5_racks_9 rfl rfl (Nat.le_of_ble_eq_true rfl) (Nat.le_of_ble_eq_true rfl) ?_
  exact ⟨rfl, rfl⟩
-- X5_machines
set_option maxRecDepth 100000 in
set_option maxHeartbeats 8000000 in
theorem k_X5_machines (l : Launch) (g : gT) {P : Nat → Nat} {σ : sT} (hP : mok P) (hB : MB σ) : CM l g yX5_machines cX5_machines 1 (some .int) ({ frames := 1, cells := 0, slots := 0, locals := 20 }) [.ref (P 0)] (mheap g P σ) (pV (some (.int (iI (σ 17 0)))) (mheap g P (su σ 0 0 0))) (noX) := by
  refine CM.of (lo := [some (.ref (P 0))]) (by decide) (Nat.le_of_ble_eq_true rfl) (by simp [Value.category]) rfl ?_
  intro pX eX sX mX bX tX cX AX F htab hmn
  have F : Fx pX l sX mX ([.ref (P 0)] : List Value).toArray tX cX cX5_machines 1 (some .int) RX5 g AX := F
  refine v_aload_n F (pc := 0) dX5_machines_0 rfl ?_
  refine v_iconst F (pc := 1) dX5_machines_1 ?_
  refine v_putf F (pc := 2) fp_X5_62_8 dX5_machines_2 (mh_0 hP) rfl rfl (Nat.le_of_ble_eq_true rfl) (h' := mheap g P (su σ 0 0 0)) (mu_0 hP 0) ?_
  have hB_1 : MB (su σ 0 0 0) := mb_su hB (show (0 : Int) ≤ 0 ∧ 0 ≤ (3 : Int) from by omega)
  refine v_aload_n F (pc := 5) dX5_machines_5 rfl ?_
  refine v_getf F (pc := 6) fd_X5_73_8 (v := .int (iI (σ 17 0))) dX5_machines_6 (mh_0 hP) rfl ?_
  have b_2 : (0 : Int) ≤ σ 17 0 ∧ σ 17 0 ≤ (60 : Int) := hB 17 0 (by decide) (by decide)
  refine v_iret F (pc := 9) (z := (iI (σ 17 0))) dX5_machines_9 rfl rfl (Nat.le_of_ble_eq_true rfl) (Nat.le_of_ble_eq_true rfl) ?_
  exact ⟨rfl, rfl⟩
-- X5_thrown
set_option maxRecDepth 100000 in
set_option maxHeartbeats 8000000 in
theorem k_X5_thrown (l : Launch) (g : gT) {P : Nat → Nat} {σ : sT} (hP : mok P) (hB : MB σ) : CM l g yX5_thrown cX5_thrown 1 (some .int) ({ frames := 1, cells := 0, slots := 0, locals := 20 }) [.ref (P 0)] (mheap g P σ) (pV (some (.int (iI (σ 0 0)))) (mheap g P σ)) (noX) := by
  refine CM.of (lo := [some (.ref (P 0))]) (by decide) (Nat.le_of_ble_eq_true rfl) (by simp [Value.category]) rfl ?_
  intro pX eX sX mX bX tX cX AX F htab hmn
  have F : Fx pX l sX mX ([.ref (P 0)] : List Value).toArray tX cX cX5_thrown 1 (some .int) RX5 g AX := F
  refine v_aload_n F (pc := 0) dX5_thrown_0 rfl ?_
  refine v_getf F (pc := 1) fd_X5_62_8 (v := .int (iI (σ 0 0))) dX5_thrown_1 (mh_0 hP) rfl ?_
  have b_1 : (0 : Int) ≤ σ 0 0 ∧ σ 0 0 ≤ (3 : Int) := hB 0 0 (by decide) (by decide)
  refine v_iret F (pc := 4) (z := (iI (σ 0 0))) dX5_thrown_4 rfl rfl (Nat.le_of_ble_eq_true rfl) (Nat.le_of_ble_eq_true rfl) ?_
  exact ⟨rfl, rfl⟩
-- X5_rackOf
set_option maxRecDepth 100000 in
set_option maxHeartbeats 8000000 in
theorem k_X5_rackOf (l : Launch) (g : gT) {P : Nat → Nat} {σ : sT} (hP : mok P) (hB : MB σ) (num : Int) (hnum : -2147483648 ≤ num ∧ num ≤ 2147483647) : CM l g yX5_rackOf cX5_rackOf 3 (some .int) ({ frames := 2, cells := 0, slots := 0, locals := 42 }) [.ref (P 0), .int (iI (num))] (mheap g P σ) (pV (some (.int (iI (if fnd_c σ num = 0 then σ 15 (m_find σ num) else 0)))) (mheap g P (su σ 0 0 (fnd_c σ num)))) (noX) := by
  refine CM.of (lo := [some (.ref (P 0)), some (.int (iI (num))), none]) (by decide) (Nat.le_of_ble_eq_true rfl) (by simp [Value.category]) rfl ?_
  intro pX eX sX mX bX tX cX AX F htab hmn
  have F : Fx pX l sX mX ([.ref (P 0), .int (iI (num))] : List Value).toArray tX cX cX5_rackOf 3 (some .int) RX5 g AX := F
  have bm : (0 : Int) ≤ σ 17 0 ∧ σ 17 0 ≤ (60 : Int) := mb_nm hB
  have br : (0 : Int) ≤ σ 5 0 ∧ σ 5 0 ≤ (8 : Int) := mb_nr hB
  refine v_aload_n F (pc := 0) dX5_rackOf_0 rfl ?_
  refine v_iload_n F (pc := 1) dX5_rackOf_1 rfl ?_
  refine v_callVp F (pc := 2) (As := [.int (iI (num))]) (rest := []) ci_X5_124 ct_X5_find cs_X5_find (k_X5_find l g hP hB num (by omega)) dX5_rackOf_2 (k0 := 8) rfl rfl (mh_0 hP) rfl rfl (Nat.le_of_ble_eq_true rfl) (Nat.le_of_ble_eq_true rfl) (Nat.le_of_ble_eq_true rfl) (Nat.le_of_ble_eq_true rfl) (Nat.le_of_ble_eq_true rfl) ?_ (fun _ _ z => z.elim)
  have rg_1 := m_find_rng hB num
  refine v_istore_n F (pc := 5) (lo' := [some (.ref (P 0)), some (.int (iI (num))), some (.int (iI (m_find σ num)))]) dX5_rackOf_5 (Nat.le_of_ble_eq_true rfl) rfl ?_
  refine v_aload_n F (pc := 6) dX5_rackOf_6 rfl ?_
  have J_2 : VE pX l eX ({ frames := 2, cells := 0, slots := 0, locals := 42 }) sX mX ([.ref (P 0), .int (iI (num))] : List Value).toArray bX tX cX 3 g AX (mheap g P σ) 0 0 17 [some (.ref (P 0)), some (.int (iI (num))), some (.int (iI (m_find σ num)))] [.int (iI (fnd_c σ num)), .ref (P 0)] (pV (some (.int (iI (if fnd_c σ num = 0 then σ 15 (m_find σ num) else 0)))) (mheap g P (su σ 0 0 (fnd_c σ num)))) (noX) 0 0 := by
    have rc := fnd_c_rng σ num
    refine v_callVp F (pc := 17) (As := [.int (iI (fnd_c σ num))]) (rest := []) ci_X5_84 ct_X5_isFine cs_X5_isFine (k_X5_isFine l g hP hB (fnd_c σ num) (by omega)) dX5_rackOf_17 (k0 := 8) rfl rfl (mh_0 hP) rfl rfl (Nat.le_of_ble_eq_true rfl) (Nat.le_of_ble_eq_true rfl) (Nat.le_of_ble_eq_true rfl) (Nat.le_of_ble_eq_true rfl) (Nat.le_of_ble_eq_true rfl) ?_ (fun _ _ z => z.elim)
    have hB_3 : MB (su σ 0 0 (fnd_c σ num)) := mb_su hB (show (0 : Int) ≤ fnd_c σ num ∧ fnd_c σ num ≤ (3 : Int) from by omega)
    refine v_if_eqB F (pc := 20) (b := (decide (fnd_c σ num = 0))) 32 dX5_rackOf_20 (by decide) (fun c_4 => ?_) (fun c_4 => ?_)
    · have c1 := of_decide_eq_false c_4
      refine v_iconst F (pc := 32) dX5_rackOf_32 ?_
      refine v_iret F (pc := 33) (z := (iI (0))) dX5_rackOf_33 rfl rfl (Nat.le_of_ble_eq_true rfl) (Nat.le_of_ble_eq_true rfl) ?_
      exact ⟨by rw [if_neg c1], rfl⟩
    · have c0 := of_decide_eq_true c_4
      have f0 := fnd_c0 hB c0
      refine v_aload_n F (pc := 23) dX5_rackOf_23 rfl ?_
      refine v_getf F (pc := 24) fd_X5_50_8 (v := .ref (P 15)) dX5_rackOf_24 (mh_0 hP) rfl ?_
      refine v_iload_n F (pc := 27) dX5_rackOf_27 rfl ?_
      refine v_iald F (pc := 28) (n := 60) (f := σ 15) (z := m_find σ num) dX5_rackOf_28 (mh_15 hP) (by omega) (by decide) ?_
      have b_5 : (-1 : Int) ≤ (σ 15) (m_find σ num) ∧ (σ 15) (m_find σ num) ≤ (7 : Int) := hB 15 (m_find σ num) (by omega) (show m_find σ num < (60 : Int) by omega)
      refine v_goto F (pc := 29) 33 dX5_rackOf_29 (by decide) ?_
      refine v_iret F (pc := 33) (z := (iI ((σ 15) (m_find σ num)))) dX5_rackOf_33 rfl rfl (Nat.le_of_ble_eq_true rfl) (Nat.le_of_ble_eq_true rfl) ?_
      exact ⟨by rw [if_pos c0], rfl⟩
  refine v_iload_n F (pc := 7) dX5_rackOf_7 rfl ?_
  refine v_iconst F (pc := 8) dX5_rackOf_8 ?_
  refine v_icmp_ne F (pc := 9) (a := m_find σ num) (b := -1) 16 dX5_rackOf_9 (by decide) (by omega) (by omega) (fun c_6 => ?_) (fun c_6 => ?_)
  · refine v_iconst F (pc := 16) dX5_rackOf_16 ?_
    have rc := fnd_c_rng σ num
    exact V.to J_2 rfl rfl (by exact congrArg (fun z => Value.int (iI z) :: [.ref (P 0)]) (show (0 : Int) = fnd_c σ num by simp only [fnd_c]; (repeat' split) <;> first | rfl | omega | (exfalso; omega) | simp_all))
  · refine v_iconst F (pc := 12) dX5_rackOf_12 ?_
    refine v_goto F (pc := 13) 17 dX5_rackOf_13 (by decide) ?_
    have rc := fnd_c_rng σ num
    exact V.to J_2 rfl rfl (by exact congrArg (fun z => Value.int (iI z) :: [.ref (P 0)]) (show (1 : Int) = fnd_c σ num by simp only [fnd_c]; (repeat' split) <;> first | rfl | omega | (exfalso; omega) | simp_all))
-- X5_slotOf
set_option maxRecDepth 100000 in
set_option maxHeartbeats 8000000 in
theorem k_X5_slotOf (l : Launch) (g : gT) {P : Nat → Nat} {σ : sT} (hP : mok P) (hB : MB σ) (num : Int) (hnum : -2147483648 ≤ num ∧ num ≤ 2147483647) : CM l g yX5_slotOf cX5_slotOf 3 (some .int) ({ frames := 2, cells := 0, slots := 0, locals := 42 }) [.ref (P 0), .int (iI (num))] (mheap g P σ) (pV (some (.int (iI (if fnd_c σ num = 0 then σ 16 (m_find σ num) else 0)))) (mheap g P (su σ 0 0 (fnd_c σ num)))) (noX) := by
  refine CM.of (lo := [some (.ref (P 0)), some (.int (iI (num))), none]) (by decide) (Nat.le_of_ble_eq_true rfl) (by simp [Value.category]) rfl ?_
  intro pX eX sX mX bX tX cX AX F htab hmn
  have F : Fx pX l sX mX ([.ref (P 0), .int (iI (num))] : List Value).toArray tX cX cX5_slotOf 3 (some .int) RX5 g AX := F
  have bm : (0 : Int) ≤ σ 17 0 ∧ σ 17 0 ≤ (60 : Int) := mb_nm hB
  have br : (0 : Int) ≤ σ 5 0 ∧ σ 5 0 ≤ (8 : Int) := mb_nr hB
  refine v_aload_n F (pc := 0) dX5_slotOf_0 rfl ?_
  refine v_iload_n F (pc := 1) dX5_slotOf_1 rfl ?_
  refine v_callVp F (pc := 2) (As := [.int (iI (num))]) (rest := []) ci_X5_124 ct_X5_find cs_X5_find (k_X5_find l g hP hB num (by omega)) dX5_slotOf_2 (k0 := 8) rfl rfl (mh_0 hP) rfl rfl (Nat.le_of_ble_eq_true rfl) (Nat.le_of_ble_eq_true rfl) (Nat.le_of_ble_eq_true rfl) (Nat.le_of_ble_eq_true rfl) (Nat.le_of_ble_eq_true rfl) ?_ (fun _ _ z => z.elim)
  have rg_1 := m_find_rng hB num
  refine v_istore_n F (pc := 5) (lo' := [some (.ref (P 0)), some (.int (iI (num))), some (.int (iI (m_find σ num)))]) dX5_slotOf_5 (Nat.le_of_ble_eq_true rfl) rfl ?_
  refine v_aload_n F (pc := 6) dX5_slotOf_6 rfl ?_
  have J_2 : VE pX l eX ({ frames := 2, cells := 0, slots := 0, locals := 42 }) sX mX ([.ref (P 0), .int (iI (num))] : List Value).toArray bX tX cX 3 g AX (mheap g P σ) 0 0 17 [some (.ref (P 0)), some (.int (iI (num))), some (.int (iI (m_find σ num)))] [.int (iI (fnd_c σ num)), .ref (P 0)] (pV (some (.int (iI (if fnd_c σ num = 0 then σ 16 (m_find σ num) else 0)))) (mheap g P (su σ 0 0 (fnd_c σ num)))) (noX) 0 0 := by
    have rc := fnd_c_rng σ num
    refine v_callVp F (pc := 17) (As := [.int (iI (fnd_c σ num))]) (rest := []) ci_X5_84 ct_X5_isFine cs_X5_isFine (k_X5_isFine l g hP hB (fnd_c σ num) (by omega)) dX5_slotOf_17 (k0 := 8) rfl rfl (mh_0 hP) rfl rfl (Nat.le_of_ble_eq_true rfl) (Nat.le_of_ble_eq_true rfl) (Nat.le_of_ble_eq_true rfl) (Nat.le_of_ble_eq_true rfl) (Nat.le_of_ble_eq_true rfl) ?_ (fun _ _ z => z.elim)
    have hB_3 : MB (su σ 0 0 (fnd_c σ num)) := mb_su hB (show (0 : Int) ≤ fnd_c σ num ∧ fnd_c σ num ≤ (3 : Int) from by omega)
    refine v_if_eqB F (pc := 20) (b := (decide (fnd_c σ num = 0))) 32 dX5_slotOf_20 (by decide) (fun c_4 => ?_) (fun c_4 => ?_)
    · have c1 := of_decide_eq_false c_4
      refine v_iconst F (pc := 32) dX5_slotOf_32 ?_
      refine v_iret F (pc := 33) (z := (iI (0))) dX5_slotOf_33 rfl rfl (Nat.le_of_ble_eq_true rfl) (Nat.le_of_ble_eq_true rfl) ?_
      exact ⟨by rw [if_neg c1], rfl⟩
    · have c0 := of_decide_eq_true c_4
      have f0 := fnd_c0 hB c0
      refine v_aload_n F (pc := 23) dX5_slotOf_23 rfl ?_
      refine v_getf F (pc := 24) fd_X5_53_8 (v := .ref (P 16)) dX5_slotOf_24 (mh_0 hP) rfl ?_
      refine v_iload_n F (pc := 27) dX5_slotOf_27 rfl ?_
      refine v_iald F (pc := 28) (n := 60) (f := σ 16) (z := m_find σ num) dX5_slotOf_28 (mh_16 hP) (by omega) (by decide) ?_
      have b_5 : (0 : Int) ≤ (σ 16) (m_find σ num) ∧ (σ 16) (m_find σ num) ≤ (19 : Int) := hB 16 (m_find σ num) (by omega) (show m_find σ num < (60 : Int) by omega)
      refine v_goto F (pc := 29) 33 dX5_slotOf_29 (by decide) ?_
      refine v_iret F (pc := 33) (z := (iI ((σ 16) (m_find σ num)))) dX5_slotOf_33 rfl rfl (Nat.le_of_ble_eq_true rfl) (Nat.le_of_ble_eq_true rfl) ?_
      exact ⟨by rw [if_pos c0], rfl⟩
  refine v_iload_n F (pc := 7) dX5_slotOf_7 rfl ?_
  refine v_iconst F (pc := 8) dX5_slotOf_8 ?_
  refine v_icmp_ne F (pc := 9) (a := m_find σ num) (b := -1) 16 dX5_slotOf_9 (by decide) (by omega) (by omega) (fun c_6 => ?_) (fun c_6 => ?_)
  · refine v_iconst F (pc := 16) dX5_slotOf_16 ?_
    have rc := fnd_c_rng σ num
    exact V.to J_2 rfl rfl (by exact congrArg (fun z => Value.int (iI z) :: [.ref (P 0)]) (show (0 : Int) = fnd_c σ num by simp only [fnd_c]; (repeat' split) <;> first | rfl | omega | (exfalso; omega) | simp_all))
  · refine v_iconst F (pc := 12) dX5_slotOf_12 ?_
    refine v_goto F (pc := 13) 17 dX5_slotOf_13 (by decide) ?_
    have rc := fnd_c_rng σ num
    exact V.to J_2 rfl rfl (by exact congrArg (fun z => Value.int (iI z) :: [.ref (P 0)]) (show (1 : Int) = fnd_c σ num by simp only [fnd_c]; (repeat' split) <;> first | rfl | omega | (exfalso; omega) | simp_all))
-- X5_isDark
set_option maxRecDepth 100000 in
set_option maxHeartbeats 8000000 in
theorem k_X5_isDark (l : Launch) (g : gT) {P : Nat → Nat} {σ : sT} (hP : mok P) (hB : MB σ) (num : Int) (hnum : -2147483648 ≤ num ∧ num ≤ 2147483647) : CM l g yX5_isDark cX5_isDark 3 (some .boolean) ({ frames := 3, cells := 0, slots := 0, locals := 62 }) [.ref (P 0), .int (iI (num))] (mheap g P σ) (pV (some (.int (iI (bI (decide (fnd_c σ num = 0) && m_dark σ (m_find σ num)))))) (mheap g P (su σ 0 0 (fnd_c σ num)))) (noX) := by
  refine CM.of (lo := [some (.ref (P 0)), some (.int (iI (num))), none]) (by decide) (Nat.le_of_ble_eq_true rfl) (by simp [Value.category]) rfl ?_
  intro pX eX sX mX bX tX cX AX F htab hmn
  have F : Fx pX l sX mX ([.ref (P 0), .int (iI (num))] : List Value).toArray tX cX cX5_isDark 3 (some .boolean) RX5 g AX := F
  have bm : (0 : Int) ≤ σ 17 0 ∧ σ 17 0 ≤ (60 : Int) := mb_nm hB
  have br : (0 : Int) ≤ σ 5 0 ∧ σ 5 0 ≤ (8 : Int) := mb_nr hB
  refine v_aload_n F (pc := 0) dX5_isDark_0 rfl ?_
  refine v_iload_n F (pc := 1) dX5_isDark_1 rfl ?_
  refine v_callVp F (pc := 2) (As := [.int (iI (num))]) (rest := []) ci_X5_124 ct_X5_find cs_X5_find (k_X5_find l g hP hB num (by omega)) dX5_isDark_2 (k0 := 8) rfl rfl (mh_0 hP) rfl rfl (Nat.le_of_ble_eq_true rfl) (Nat.le_of_ble_eq_true rfl) (Nat.le_of_ble_eq_true rfl) (Nat.le_of_ble_eq_true rfl) (Nat.le_of_ble_eq_true rfl) ?_ (fun _ _ z => z.elim)
  have rg_1 := m_find_rng hB num
  refine v_istore_n F (pc := 5) (lo' := [some (.ref (P 0)), some (.int (iI (num))), some (.int (iI (m_find σ num)))]) dX5_isDark_5 (Nat.le_of_ble_eq_true rfl) rfl ?_
  refine v_aload_n F (pc := 6) dX5_isDark_6 rfl ?_
  have J_2 : VE pX l eX ({ frames := 3, cells := 0, slots := 0, locals := 62 }) sX mX ([.ref (P 0), .int (iI (num))] : List Value).toArray bX tX cX 3 g AX (mheap g P σ) 0 0 17 [some (.ref (P 0)), some (.int (iI (num))), some (.int (iI (m_find σ num)))] [.int (iI (fnd_c σ num)), .ref (P 0)] (pV (some (.int (iI (bI (decide (fnd_c σ num = 0) && m_dark σ (m_find σ num)))))) (mheap g P (su σ 0 0 (fnd_c σ num)))) (noX) 0 0 := by
    have rc := fnd_c_rng σ num
    refine v_callVp F (pc := 17) (As := [.int (iI (fnd_c σ num))]) (rest := []) ci_X5_84 ct_X5_isFine cs_X5_isFine (k_X5_isFine l g hP hB (fnd_c σ num) (by omega)) dX5_isDark_17 (k0 := 8) rfl rfl (mh_0 hP) rfl rfl (Nat.le_of_ble_eq_true rfl) (Nat.le_of_ble_eq_true rfl) (Nat.le_of_ble_eq_true rfl) (Nat.le_of_ble_eq_true rfl) (Nat.le_of_ble_eq_true rfl) ?_ (fun _ _ z => z.elim)
    have hB_3 : MB (su σ 0 0 (fnd_c σ num)) := mb_su hB (show (0 : Int) ≤ fnd_c σ num ∧ fnd_c σ num ≤ (3 : Int) from by omega)
    refine v_if_eqB F (pc := 20) (b := (decide (fnd_c σ num = 0))) 35 dX5_isDark_20 (by decide) (fun c_4 => ?_) (fun c_4 => ?_)
    · have c1 := of_decide_eq_false c_4
      refine v_iconst F (pc := 35) dX5_isDark_35 ?_
      refine v_iret F (pc := 36) (z := (iI (0))) dX5_isDark_36 rfl (by first | rfl | exact nar_bI _ | decide) (Nat.le_of_ble_eq_true rfl) (Nat.le_of_ble_eq_true rfl) ?_
      exact ⟨congrArg (fun z => some (Value.int (iI z))) (show (0 : Int) = bI (decide (fnd_c σ num = 0) && m_dark σ (m_find σ num)) by simp_all [bI]), rfl⟩
    · have c0 := of_decide_eq_true c_4
      have f0 := fnd_c0 hB c0
      refine v_aload_n F (pc := 23) dX5_isDark_23 rfl ?_
      refine v_iload_n F (pc := 24) dX5_isDark_24 rfl ?_
      refine v_callVp F (pc := 25) (As := [.int (iI (m_find σ num))]) (rest := []) ci_X5_98 ct_X5_isDarkAt cs_X5_isDarkAt (k_X5_isDarkAt l g hP hB_3 (m_find σ num) (by omega)) dX5_isDark_25 (k0 := 8) rfl rfl (mh_0 hP) rfl rfl (Nat.le_of_ble_eq_true rfl) (Nat.le_of_ble_eq_true rfl) (Nat.le_of_ble_eq_true rfl) (Nat.le_of_ble_eq_true rfl) (Nat.le_of_ble_eq_true rfl) ?_ (fun _ _ z => z.elim)
      refine v_if_eqB F (pc := 28) (b := (m_dark σ (m_find σ num))) 35 dX5_isDark_28 (by decide) (fun c_5 => ?_) (fun c_5 => ?_)
      · refine v_iconst F (pc := 35) dX5_isDark_35 ?_
        refine v_iret F (pc := 36) (z := (iI (0))) dX5_isDark_36 rfl (by first | rfl | exact nar_bI _ | decide) (Nat.le_of_ble_eq_true rfl) (Nat.le_of_ble_eq_true rfl) ?_
        exact ⟨congrArg (fun z => some (Value.int (iI z))) (show (0 : Int) = bI (decide (fnd_c σ num = 0) && m_dark σ (m_find σ num)) by simp_all [bI]), rfl⟩
      · refine v_iconst F (pc := 31) dX5_isDark_31 ?_
        refine v_goto F (pc := 32) 36 dX5_isDark_32 (by decide) ?_
        refine v_iret F (pc := 36) (z := (iI (1))) dX5_isDark_36 rfl (by first | rfl | exact nar_bI _ | decide) (Nat.le_of_ble_eq_true rfl) (Nat.le_of_ble_eq_true rfl) ?_
        exact ⟨congrArg (fun z => some (Value.int (iI z))) (show (1 : Int) = bI (decide (fnd_c σ num = 0) && m_dark σ (m_find σ num)) by simp_all [bI]), rfl⟩
  refine v_iload_n F (pc := 7) dX5_isDark_7 rfl ?_
  refine v_iconst F (pc := 8) dX5_isDark_8 ?_
  refine v_icmp_ne F (pc := 9) (a := m_find σ num) (b := -1) 16 dX5_isDark_9 (by decide) (by omega) (by omega) (fun c_6 => ?_) (fun c_6 => ?_)
  · refine v_iconst F (pc := 16) dX5_isDark_16 ?_
    have rc := fnd_c_rng σ num
    exact V.to J_2 rfl rfl (by exact congrArg (fun z => Value.int (iI z) :: [.ref (P 0)]) (show (0 : Int) = fnd_c σ num by simp only [fnd_c]; (repeat' split) <;> first | rfl | omega | (exfalso; omega) | simp_all))
  · refine v_iconst F (pc := 12) dX5_isDark_12 ?_
    refine v_goto F (pc := 13) 17 dX5_isDark_13 (by decide) ?_
    have rc := fnd_c_rng σ num
    exact V.to J_2 rfl rfl (by exact congrArg (fun z => Value.int (iI z) :: [.ref (P 0)]) (show (1 : Int) = fnd_c σ num by simp only [fnd_c]; (repeat' split) <;> first | rfl | omega | (exfalso; omega) | simp_all))
-- X5_machineAt
set_option maxRecDepth 100000 in
set_option maxHeartbeats 8000000 in
theorem k_X5_machineAt (l : Launch) (g : gT) {P : Nat → Nat} {σ : sT} (hP : mok P) (hB : MB σ) (r s : Int) (hr : -2147483648 ≤ r ∧ r ≤ 2147483647) (hs : -2147483648 ≤ s ∧ s ≤ 2147483647) : CM l g yX5_machineAt cX5_machineAt 5 (some .int) ({ frames := 3, cells := 0, slots := 0, locals := 63 }) [.ref (P 0), .int (iI (r)), .int (iI (s))] (mheap g P σ) (pV (some (.int (iI (mA_a σ r s)))) (mheap g P (su σ 0 0 (c01 (mA_ok σ r s))))) (noX) := by
  refine CM.of (lo := [some (.ref (P 0)), some (.int (iI (r))), some (.int (iI (s))), none, none]) (by decide) (Nat.le_of_ble_eq_true rfl) (by simp [Value.category]) rfl ?_
  intro pX eX sX mX bX tX cX AX F htab hmn
  have F : Fx pX l sX mX ([.ref (P 0), .int (iI (r)), .int (iI (s))] : List Value).toArray tX cX cX5_machineAt 5 (some .int) RX5 g AX := F
  have bm : (0 : Int) ≤ σ 17 0 ∧ σ 17 0 ≤ (60 : Int) := mb_nm hB
  have br : (0 : Int) ≤ σ 5 0 ∧ σ 5 0 ≤ (8 : Int) := mb_nr hB
  have J_1 : VE pX l eX ({ frames := 3, cells := 0, slots := 0, locals := 63 }) sX mX ([.ref (P 0), .int (iI (r)), .int (iI (s))] : List Value).toArray bX tX cX 5 g AX (mheap g P σ) 0 0 29 [some (.ref (P 0)), some (.int (iI (r))), some (.int (iI (s))), none, none] [.int (iI (bI (mA_ok σ r s)))] (pV (some (.int (iI (mA_a σ r s)))) (mheap g P (su σ 0 0 (c01 (mA_ok σ r s))))) (noX) 0 0 := by
    refine v_istore_n F (pc := 29) (lo' := [some (.ref (P 0)), some (.int (iI (r))), some (.int (iI (s))), some (.int (iI (bI (mA_ok σ r s)))), none]) dX5_machineAt_29 (Nat.le_of_ble_eq_true rfl) rfl ?_
    have J_2 : VE pX l eX ({ frames := 3, cells := 0, slots := 0, locals := 63 }) sX mX ([.ref (P 0), .int (iI (r)), .int (iI (s))] : List Value).toArray bX tX cX 5 g AX (mheap g P σ) 0 0 44 [some (.ref (P 0)), some (.int (iI (r))), some (.int (iI (s))), some (.int (iI (bI (mA_ok σ r s)))), none] [.int (iI ((if mA_ok σ r s = true then m_inSlot σ r s else -1)))] (pV (some (.int (iI (mA_a σ r s)))) (mheap g P (su σ 0 0 (c01 (mA_ok σ r s))))) (noX) 0 0 := by
      have ri := m_inSlot_rng hB r s
      have ri2 : -1 ≤ (if mA_ok σ r s = true then m_inSlot σ r s else -1) ∧ (if mA_ok σ r s = true then m_inSlot σ r s else -1) < 60 := by split <;> omega
      refine v_istore F (pc := 44) (lo' := [some (.ref (P 0)), some (.int (iI (r))), some (.int (iI (s))), some (.int (iI (bI (mA_ok σ r s)))), some (.int (iI ((if mA_ok σ r s = true then m_inSlot σ r s else -1))))]) dX5_machineAt_44 (Nat.le_of_ble_eq_true rfl) rfl ?_
      refine v_aload_n F (pc := 46) dX5_machineAt_46 rfl ?_
      have J_3 : VE pX l eX ({ frames := 3, cells := 0, slots := 0, locals := 63 }) sX mX ([.ref (P 0), .int (iI (r)), .int (iI (s))] : List Value).toArray bX tX cX 5 g AX (mheap g P σ) 0 0 56 [some (.ref (P 0)), some (.int (iI (r))), some (.int (iI (s))), some (.int (iI (bI (mA_ok σ r s)))), some (.int (iI ((if mA_ok σ r s = true then m_inSlot σ r s else -1))))] [.int (iI (c01 (mA_ok σ r s))), .ref (P 0)] (pV (some (.int (iI (mA_a σ r s)))) (mheap g P (su σ 0 0 (c01 (mA_ok σ r s))))) (noX) 0 0 := by
        have rc := c01_rng (mA_ok σ r s)
        refine v_callVp F (pc := 56) (As := [.int (iI (c01 (mA_ok σ r s)))]) (rest := []) ci_X5_84 ct_X5_isFine cs_X5_isFine (k_X5_isFine l g hP hB (c01 (mA_ok σ r s)) (by omega)) dX5_machineAt_56 (k0 := 8) rfl rfl (mh_0 hP) rfl rfl (Nat.le_of_ble_eq_true rfl) (Nat.le_of_ble_eq_true rfl) (Nat.le_of_ble_eq_true rfl) (Nat.le_of_ble_eq_true rfl) (Nat.le_of_ble_eq_true rfl) ?_ (fun _ _ z => z.elim)
        have hB_4 : MB (su σ 0 0 (c01 (mA_ok σ r s))) := mb_su hB (show (0 : Int) ≤ c01 (mA_ok σ r s) ∧ c01 (mA_ok σ r s) ≤ (3 : Int) from by omega)
        refine v_if_neB F (pc := 59) (b := (decide (c01 (mA_ok σ r s) = 0))) 66 dX5_machineAt_59 (by decide) (fun c_5 => ?_) (fun c_5 => ?_)
        · have c0 := of_decide_eq_true c_5
          refine v_iload F (pc := 66) dX5_machineAt_66 rfl ?_
          refine v_iconst F (pc := 68) dX5_machineAt_68 ?_
          refine v_icmp_ne F (pc := 69) (a := (if mA_ok σ r s = true then m_inSlot σ r s else -1)) (b := -1) 76 dX5_machineAt_69 (by decide) (by omega) (by omega) (fun c_6 => ?_) (fun c_6 => ?_)
          · refine v_aload_n F (pc := 76) dX5_machineAt_76 rfl ?_
            refine v_getf F (pc := 77) fd_X5_35_8 (v := .ref (P 10)) dX5_machineAt_77 (mh_0 hP) rfl ?_
            refine v_iload F (pc := 80) dX5_machineAt_80 rfl ?_
            refine v_iald F (pc := 82) (n := 60) (f := σ 10) (z := (if mA_ok σ r s = true then m_inSlot σ r s else -1)) dX5_machineAt_82 (mh_10 hP) (by omega) (by decide) ?_
            have b_7 : (0 : Int) ≤ (σ 10) (if mA_ok σ r s = true then m_inSlot σ r s else -1) ∧ (σ 10) (if mA_ok σ r s = true then m_inSlot σ r s else -1) ≤ (1000000 : Int) := hB 10 (if mA_ok σ r s = true then m_inSlot σ r s else -1) (by omega) (show (if mA_ok σ r s = true then m_inSlot σ r s else -1) < (60 : Int) by omega)
            refine v_iret F (pc := 83) (z := (iI ((σ 10) (if mA_ok σ r s = true then m_inSlot σ r s else -1)))) dX5_machineAt_83 rfl rfl (Nat.le_of_ble_eq_true rfl) (Nat.le_of_ble_eq_true rfl) ?_
            exact ⟨congrArg (fun z => some (Value.int (iI z))) (by have q9 := c01_0 c0; rw [show mA_a σ r s = (if m_inSlot σ r s = -1 then -1 else σ 10 (m_inSlot σ r s)) from if_pos c0]; simp_all), rfl⟩
          · refine v_iconst F (pc := 72) dX5_machineAt_72 ?_
            refine v_goto F (pc := 73) 83 dX5_machineAt_73 (by decide) ?_
            refine v_iret F (pc := 83) (z := (iI (-1))) dX5_machineAt_83 rfl rfl (Nat.le_of_ble_eq_true rfl) (Nat.le_of_ble_eq_true rfl) ?_
            exact ⟨congrArg (fun z => some (Value.int (iI z))) (by have q9 := c01_0 c0; rw [show mA_a σ r s = (if m_inSlot σ r s = -1 then -1 else σ 10 (m_inSlot σ r s)) from if_pos c0]; simp_all), rfl⟩
        · have c1 := of_decide_eq_false c_5
          refine v_iconst F (pc := 62) dX5_machineAt_62 ?_
          refine v_goto F (pc := 63) 83 dX5_machineAt_63 (by decide) ?_
          refine v_iret F (pc := 83) (z := (iI (0))) dX5_machineAt_83 rfl rfl (Nat.le_of_ble_eq_true rfl) (Nat.le_of_ble_eq_true rfl) ?_
          exact ⟨by rw [show mA_a σ r s = 0 from if_neg c1], rfl⟩
      refine v_iload_n F (pc := 47) dX5_machineAt_47 rfl ?_
      refine v_if_eqB F (pc := 48) (b := (mA_ok σ r s)) 55 dX5_machineAt_48 (by decide) (fun c_8 => ?_) (fun c_8 => ?_)
      · refine v_iconst F (pc := 55) dX5_machineAt_55 ?_
        have rc := c01_rng (mA_ok σ r s)
        exact V.to J_3 rfl rfl (by exact congrArg (fun z => Value.int (iI z) :: [.ref (P 0)]) (show (1 : Int) = c01 (mA_ok σ r s) by simp only [c01]; (repeat' split) <;> first | rfl | omega | (exfalso; omega) | simp_all))
      · refine v_iconst F (pc := 51) dX5_machineAt_51 ?_
        refine v_goto F (pc := 52) 56 dX5_machineAt_52 (by decide) ?_
        have rc := c01_rng (mA_ok σ r s)
        exact V.to J_3 rfl rfl (by exact congrArg (fun z => Value.int (iI z) :: [.ref (P 0)]) (show (0 : Int) = c01 (mA_ok σ r s) by simp only [c01]; (repeat' split) <;> first | rfl | omega | (exfalso; omega) | simp_all))
    refine v_iload_n F (pc := 30) dX5_machineAt_30 rfl ?_
    refine v_if_eqB F (pc := 31) (b := (mA_ok σ r s)) 43 dX5_machineAt_31 (by decide) (fun c_9 => ?_) (fun c_9 => ?_)
    · refine v_iconst F (pc := 43) dX5_machineAt_43 ?_
      have ri := m_inSlot_rng hB r s
      have ri2 : -1 ≤ (if mA_ok σ r s = true then m_inSlot σ r s else -1) ∧ (if mA_ok σ r s = true then m_inSlot σ r s else -1) < 60 := by split <;> omega
      exact V.to J_2 rfl rfl (by simp_all)
    · refine v_aload_n F (pc := 34) dX5_machineAt_34 rfl ?_
      refine v_iload_n F (pc := 35) dX5_machineAt_35 rfl ?_
      refine v_iload_n F (pc := 36) dX5_machineAt_36 rfl ?_
      refine v_callVp F (pc := 37) (As := [.int (iI (r)), .int (iI (s))]) (rest := []) ci_X5_101 ct_X5_inSlot cs_X5_inSlot (k_X5_inSlot l g hP hB r s (by omega) (by omega)) dX5_machineAt_37 (k0 := 8) rfl rfl (mh_0 hP) rfl rfl (Nat.le_of_ble_eq_true rfl) (Nat.le_of_ble_eq_true rfl) (Nat.le_of_ble_eq_true rfl) (Nat.le_of_ble_eq_true rfl) (Nat.le_of_ble_eq_true rfl) ?_ (fun _ _ z => z.elim)
      have rg_10 := m_inSlot_rng hB r s
      refine v_goto F (pc := 40) 44 dX5_machineAt_40 (by decide) ?_
      have ri := m_inSlot_rng hB r s
      have ri2 : -1 ≤ (if mA_ok σ r s = true then m_inSlot σ r s else -1) ∧ (if mA_ok σ r s = true then m_inSlot σ r s else -1) < 60 := by split <;> omega
      exact V.to J_2 rfl rfl (by simp_all)
  refine v_aload_n F (pc := 0) dX5_machineAt_0 rfl ?_
  refine v_iload_n F (pc := 1) dX5_machineAt_1 rfl ?_
  refine v_callVp F (pc := 2) (As := [.int (iI (r))]) (rest := []) ci_X5_134 ct_X5_isRack cs_X5_isRack (k_X5_isRack l g hP hB r (by omega)) dX5_machineAt_2 (k0 := 8) rfl rfl (mh_0 hP) rfl rfl (Nat.le_of_ble_eq_true rfl) (Nat.le_of_ble_eq_true rfl) (Nat.le_of_ble_eq_true rfl) (Nat.le_of_ble_eq_true rfl) (Nat.le_of_ble_eq_true rfl) ?_ (fun _ _ z => z.elim)
  refine v_if_eqB F (pc := 5) (b := (inn r 0 (σ 5 0 - 1))) 28 dX5_machineAt_5 (by decide) (fun c_11 => ?_) (fun c_11 => ?_)
  · refine v_iconst F (pc := 28) dX5_machineAt_28 ?_
    exact V.to J_1 rfl rfl (by exact congrArg (fun z => Value.int (iI z) :: []) (show (0 : Int) = bI (mA_ok σ r s) by simp only [mA_ok, okR]; simp_all [bI]))
  · have q0 := inn_iff.mp c_11
    refine v_iload_n F (pc := 8) dX5_machineAt_8 rfl ?_
    refine v_iconst F (pc := 9) dX5_machineAt_9 ?_
    refine v_aload_n F (pc := 10) dX5_machineAt_10 rfl ?_
    refine v_getf F (pc := 11) fd_X5_13_8 (v := .ref (P 2)) dX5_machineAt_11 (mh_0 hP) rfl ?_
    refine v_iload_n F (pc := 14) dX5_machineAt_14 rfl ?_
    refine v_iald F (pc := 15) (n := 8) (f := σ 2) (z := r) dX5_machineAt_15 (mh_2 hP) (by omega) (by decide) ?_
    have b_12 : (0 : Int) ≤ (σ 2) r ∧ (σ 2) r ≤ (20 : Int) := hB 2 r (by omega) (show r < (8 : Int) by omega)
    refine v_iconst F (pc := 16) dX5_machineAt_16 ?_
    refine v_isub F (pc := 17) (a := (σ 2) r) (b := 1) dX5_machineAt_17 ?_
    refine v_callSp F (pc := 18) (As := [.int (iI (s)), .int (iI (0)), .int (iI (((σ 2) r) - 1))]) (rest := []) ci_X5_69 ct_X5_isIn (k_X5_isIn l g s 0 (((σ 2) r) - 1) (by omega) (by omega) (by omega)) dX5_machineAt_18 rfl rfl (Nat.le_of_ble_eq_true rfl) (Nat.le_of_ble_eq_true rfl) (Nat.le_of_ble_eq_true rfl) (Nat.le_of_ble_eq_true rfl) (Nat.le_of_ble_eq_true rfl) ?_ (fun _ _ z => z.elim)
    refine v_if_eqB F (pc := 21) (b := (inn s 0 (((σ 2) r) - 1))) 28 dX5_machineAt_21 (by decide) (fun c_13 => ?_) (fun c_13 => ?_)
    · refine v_iconst F (pc := 28) dX5_machineAt_28 ?_
      exact V.to J_1 rfl rfl (by exact congrArg (fun z => Value.int (iI z) :: []) (show (0 : Int) = bI (mA_ok σ r s) by simp only [mA_ok, okR]; simp_all [bI]))
    · refine v_iconst F (pc := 24) dX5_machineAt_24 ?_
      refine v_goto F (pc := 25) 29 dX5_machineAt_25 (by decide) ?_
      exact V.to J_1 rfl rfl (by exact congrArg (fun z => Value.int (iI z) :: []) (show (1 : Int) = bI (mA_ok σ r s) by simp only [mA_ok, okR]; simp_all [bI]))
