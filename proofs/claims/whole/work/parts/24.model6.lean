-- X5_place
set_option maxRecDepth 100000 in
set_option maxHeartbeats 8000000 in
theorem k_X5_place (l : Launch) (g : gT) {P : Nat → Nat} {σ : sT} (hP : mok P) (hB : MB σ) (n p w c : Int) (hn : -2147483648 ≤ n ∧ n ≤ 2147483647) (hp : -2147483648 ≤ p ∧ p ≤ 2147483647) (hw : -2147483648 ≤ w ∧ w ≤ 2147483647) (hc : -2147483648 ≤ c ∧ c ≤ 2147483647) (hgv : σ 18 0 < 1000000) : CM l g yX5_place cX5_place 6 (some .int) ({ frames := 6, cells := 0, slots := 0, locals := 143 }) [.ref (P 0), .int (iI (n)), .int (iI (p)), .int (iI (w)), .int (iI (c))] (mheap g P σ) (pV (some (.int (iI (pl_a σ n p w c)))) (mheap g P (pl_s σ n p w c))) (noX) := by
  refine CM.of (lo := [some (.ref (P 0)), some (.int (iI (n))), some (.int (iI (p))), some (.int (iI (w))), some (.int (iI (c))), none]) (by decide) (Nat.le_of_ble_eq_true rfl) (by simp [Value.category]) rfl ?_
  intro pX eX sX mX bX tX cX AX F htab hmn
  have F : Fx pX l sX mX ([.ref (P 0), .int (iI (n)), .int (iI (p)), .int (iI (w)), .int (iI (c))] : List Value).toArray tX cX cX5_place 6 (some .int) RX5 g AX := F
  have bm : (0 : Int) ≤ σ 17 0 ∧ σ 17 0 ≤ (60 : Int) := mb_nm hB
  have br : (0 : Int) ≤ σ 5 0 ∧ σ 5 0 ≤ (8 : Int) := mb_nr hB
  have bg : (0 : Int) ≤ σ 18 0 ∧ σ 18 0 ≤ (1000000 : Int) := hB 18 0 (by decide) (by decide)
  refine v_iload_n F (pc := 0) dX5_place_0 rfl ?_
  refine v_iload_n F (pc := 1) dX5_place_1 rfl ?_
  refine v_iload_n F (pc := 2) dX5_place_2 rfl ?_
  refine v_iload F (pc := 3) dX5_place_3 rfl ?_
  refine v_callSp F (pc := 5) (As := [.int (iI (n)), .int (iI (p)), .int (iI (w)), .int (iI (c))]) (rest := []) ci_X5_115 ct_X5_isKind (k_X5_isKind l g n p w c (by omega) (by omega) (by omega) (by omega)) dX5_place_5 rfl rfl (Nat.le_of_ble_eq_true rfl) (Nat.le_of_ble_eq_true rfl) (Nat.le_of_ble_eq_true rfl) (Nat.le_of_ble_eq_true rfl) (Nat.le_of_ble_eq_true rfl) ?_ (fun _ _ z => z.elim)
  refine v_istore F (pc := 8) (lo' := [some (.ref (P 0)), some (.int (iI (n))), some (.int (iI (p))), some (.int (iI (w))), some (.int (iI (c))), some (.int (iI (bI (m_kind n p w c))))]) dX5_place_8 (Nat.le_of_ble_eq_true rfl) rfl ?_
  refine v_aload_n F (pc := 10) dX5_place_10 rfl ?_
  have J_1 : VE pX l eX ({ frames := 6, cells := 0, slots := 0, locals := 143 }) sX mX ([.ref (P 0), .int (iI (n)), .int (iI (p)), .int (iI (w)), .int (iI (c))] : List Value).toArray bX tX cX 6 g AX (mheap g P σ) 0 0 34 [some (.ref (P 0)), some (.int (iI (n))), some (.int (iI (p))), some (.int (iI (w))), some (.int (iI (c))), some (.int (iI (bI (m_kind n p w c))))] [.int (iI (pl_c1 σ n p w c)), .ref (P 0)] (pV (some (.int (iI (pl_a σ n p w c)))) (mheap g P (pl_s σ n p w c))) (noX) 0 0 := by
    have rc := pl_c1_rng σ n p w c
    refine v_callVp F (pc := 34) (As := [.int (iI (pl_c1 σ n p w c))]) (rest := []) ci_X5_84 ct_X5_isFine cs_X5_isFine (k_X5_isFine l g hP hB (pl_c1 σ n p w c) (by omega)) dX5_place_34 (k0 := 8) rfl rfl (mh_0 hP) rfl rfl (Nat.le_of_ble_eq_true rfl) (Nat.le_of_ble_eq_true rfl) (Nat.le_of_ble_eq_true rfl) (Nat.le_of_ble_eq_true rfl) (Nat.le_of_ble_eq_true rfl) ?_ (fun _ _ z => z.elim)
    have hB_2 : MB (su σ 0 0 (pl_c1 σ n p w c)) := mb_su hB (show (0 : Int) ≤ pl_c1 σ n p w c ∧ pl_c1 σ n p w c ≤ (3 : Int) from by omega)
    refine v_if_neB F (pc := 37) (b := (decide (pl_c1 σ n p w c = 0))) 42 dX5_place_37 (by decide) (fun c_3 => ?_) (fun c_3 => ?_)
    · have c0 := of_decide_eq_true c_3
      have f0 := pl_c10 c0
      refine v_aload_n F (pc := 42) dX5_place_42 rfl ?_
      refine v_getf F (pc := 43) fd_X5_38_8 (v := .ref (P 11)) dX5_place_43 (mh_0 hP) rfl ?_
      refine v_aload_n F (pc := 46) dX5_place_46 rfl ?_
      refine v_getf F (pc := 47) fd_X5_73_8 (v := .int (iI (σ 17 0))) dX5_place_47 (mh_0 hP) rfl ?_
      have b_4 : (0 : Int) ≤ σ 17 0 ∧ σ 17 0 ≤ (60 : Int) := hB_2 17 0 (by decide) (by decide)
      refine v_iload_n F (pc := 50) dX5_place_50 rfl ?_
      refine v_iast F (pc := 51) (n := 60) (f := σ 11) (z := σ 17 0) (x := n) dX5_place_51 (mh_11 hP) (by omega) (by decide)  (h' := mheap g P (su (su σ 0 0 (pl_c1 σ n p w c)) 11 (σ 17 0) n)) (mu_11 hP (σ 17 0) n) ?_
      have hB_5 : MB (su (su σ 0 0 (pl_c1 σ n p w c)) 11 (σ 17 0) n) := mb_su hB_2 (show (0 : Int) ≤ n ∧ n ≤ (6 : Int) from by omega)
      refine v_aload_n F (pc := 52) dX5_place_52 rfl ?_
      refine v_getf F (pc := 53) fd_X5_41_8 (v := .ref (P 12)) dX5_place_53 (mh_0 hP) rfl ?_
      refine v_aload_n F (pc := 56) dX5_place_56 rfl ?_
      refine v_getf F (pc := 57) fd_X5_73_8 (v := .int (iI (σ 17 0))) dX5_place_57 (mh_0 hP) rfl ?_
      have b_6 : (0 : Int) ≤ σ 17 0 ∧ σ 17 0 ≤ (60 : Int) := hB_5 17 0 (by decide) (by decide)
      refine v_iload_n F (pc := 60) dX5_place_60 rfl ?_
      refine v_iast F (pc := 61) (n := 60) (f := σ 12) (z := σ 17 0) (x := p) dX5_place_61 (mh_12 hP) (by omega) (by decide)  (h' := mheap g P (su (su (su σ 0 0 (pl_c1 σ n p w c)) 11 (σ 17 0) n) 12 (σ 17 0) p)) (mu_12 hP (σ 17 0) p) ?_
      have hB_7 : MB (su (su (su σ 0 0 (pl_c1 σ n p w c)) 11 (σ 17 0) n) 12 (σ 17 0) p) := mb_su hB_5 (show (0 : Int) ≤ p ∧ p ≤ (2000 : Int) from by omega)
      refine v_aload_n F (pc := 62) dX5_place_62 rfl ?_
      refine v_getf F (pc := 63) fd_X5_44_8 (v := .ref (P 13)) dX5_place_63 (mh_0 hP) rfl ?_
      refine v_aload_n F (pc := 66) dX5_place_66 rfl ?_
      refine v_getf F (pc := 67) fd_X5_73_8 (v := .int (iI (σ 17 0))) dX5_place_67 (mh_0 hP) rfl ?_
      have b_8 : (0 : Int) ≤ σ 17 0 ∧ σ 17 0 ≤ (60 : Int) := hB_7 17 0 (by decide) (by decide)
      refine v_iload_n F (pc := 70) dX5_place_70 rfl ?_
      refine v_iast F (pc := 71) (n := 60) (f := σ 13) (z := σ 17 0) (x := w) dX5_place_71 (mh_13 hP) (by omega) (by decide)  (h' := mheap g P (su (su (su (su σ 0 0 (pl_c1 σ n p w c)) 11 (σ 17 0) n) 12 (σ 17 0) p) 13 (σ 17 0) w)) (mu_13 hP (σ 17 0) w) ?_
      have hB_9 : MB (su (su (su (su σ 0 0 (pl_c1 σ n p w c)) 11 (σ 17 0) n) 12 (σ 17 0) p) 13 (σ 17 0) w) := mb_su hB_7 (show (0 : Int) ≤ w ∧ w ≤ (1000 : Int) from by omega)
      refine v_aload_n F (pc := 72) dX5_place_72 rfl ?_
      refine v_getf F (pc := 73) fd_X5_47_8 (v := .ref (P 14)) dX5_place_73 (mh_0 hP) rfl ?_
      refine v_aload_n F (pc := 76) dX5_place_76 rfl ?_
      refine v_getf F (pc := 77) fd_X5_73_8 (v := .int (iI (σ 17 0))) dX5_place_77 (mh_0 hP) rfl ?_
      have b_10 : (0 : Int) ≤ σ 17 0 ∧ σ 17 0 ≤ (60 : Int) := hB_9 17 0 (by decide) (by decide)
      refine v_iload F (pc := 80) dX5_place_80 rfl ?_
      refine v_iast F (pc := 82) (n := 60) (f := σ 14) (z := σ 17 0) (x := c) dX5_place_82 (mh_14 hP) (by omega) (by decide)  (h' := mheap g P (su (su (su (su (su σ 0 0 (pl_c1 σ n p w c)) 11 (σ 17 0) n) 12 (σ 17 0) p) 13 (σ 17 0) w) 14 (σ 17 0) c)) (mu_14 hP (σ 17 0) c) ?_
      have hB_11 : MB (su (su (su (su (su σ 0 0 (pl_c1 σ n p w c)) 11 (σ 17 0) n) 12 (σ 17 0) p) 13 (σ 17 0) w) 14 (σ 17 0) c) := mb_su hB_9 (show (0 : Int) ≤ c ∧ c ≤ (2 : Int) from by omega)
      refine v_aload_n F (pc := 83) dX5_place_83 rfl ?_
      refine v_getf F (pc := 84) fd_X5_35_8 (v := .ref (P 10)) dX5_place_84 (mh_0 hP) rfl ?_
      refine v_aload_n F (pc := 87) dX5_place_87 rfl ?_
      refine v_getf F (pc := 88) fd_X5_73_8 (v := .int (iI (σ 17 0))) dX5_place_88 (mh_0 hP) rfl ?_
      have b_12 : (0 : Int) ≤ σ 17 0 ∧ σ 17 0 ≤ (60 : Int) := hB_11 17 0 (by decide) (by decide)
      refine v_aload_n F (pc := 91) dX5_place_91 rfl ?_
      refine v_getf F (pc := 92) fd_X5_118_8 (v := .int (iI (σ 18 0))) dX5_place_92 (mh_0 hP) rfl ?_
      have b_13 : (0 : Int) ≤ σ 18 0 ∧ σ 18 0 ≤ (1000000 : Int) := hB_11 18 0 (by decide) (by decide)
      refine v_iast F (pc := 95) (n := 60) (f := σ 10) (z := σ 17 0) (x := σ 18 0) dX5_place_95 (mh_10 hP) (by omega) (by decide)  (h' := mheap g P (su (su (su (su (su (su σ 0 0 (pl_c1 σ n p w c)) 11 (σ 17 0) n) 12 (σ 17 0) p) 13 (σ 17 0) w) 14 (σ 17 0) c) 10 (σ 17 0) (σ 18 0))) (mu_10 hP (σ 17 0) (σ 18 0)) ?_
      have hB_14 : MB (su (su (su (su (su (su σ 0 0 (pl_c1 σ n p w c)) 11 (σ 17 0) n) 12 (σ 17 0) p) 13 (σ 17 0) w) 14 (σ 17 0) c) 10 (σ 17 0) (σ 18 0)) := mb_su hB_11 (show (0 : Int) ≤ σ 18 0 ∧ σ 18 0 ≤ (1000000 : Int) from by omega)
      refine v_aload_n F (pc := 96) dX5_place_96 rfl ?_
      refine v_aload_n F (pc := 97) dX5_place_97 rfl ?_
      refine v_aload_n F (pc := 98) dX5_place_98 rfl ?_
      refine v_getf F (pc := 99) fd_X5_73_8 (v := .int (iI (σ 17 0))) dX5_place_99 (mh_0 hP) rfl ?_
      have b_15 : (0 : Int) ≤ σ 17 0 ∧ σ 17 0 ≤ (60 : Int) := hB_14 17 0 (by decide) (by decide)
      have t_ := k_X5_puts l g hP hB_14 (σ 17 0) (by omega)
      have mp_ := m_put_mb hB_14 (σ 17 0)
      have pr_ := m_pr_rng hB_14 (σ 17 0)
      by_cases hq : m_pr (su (su (su (su (su (su σ 0 0 (pl_c1 σ n p w c)) 11 (σ 17 0) n) 12 (σ 17 0) p) 13 (σ 17 0) w) 14 (σ 17 0) c) 10 (σ 17 0) (σ 18 0)) (σ 17 0) = -1
      · rw [m_put_none hq, hq] at t_
        have hq' : pl_r σ n p w c = -1 := hq
        refine v_callVp F (pc := 102) (As := [.int (iI (σ 17 0))]) (rest := [.ref (P 0)]) (h1 := mheap g P (su (su (su (su (su (su σ 0 0 (pl_c1 σ n p w c)) 11 (σ 17 0) n) 12 (σ 17 0) p) 13 (σ 17 0) w) 14 (σ 17 0) c) 10 (σ 17 0) (σ 18 0))) ci_X5_121 ct_X5_puts cs_X5_puts t_ dX5_place_102 (k0 := 8) rfl rfl (mh_0 hP) rfl rfl (Nat.le_of_ble_eq_true rfl) (Nat.le_of_ble_eq_true rfl) (Nat.le_of_ble_eq_true rfl) (Nat.le_of_ble_eq_true rfl) (Nat.le_of_ble_eq_true rfl) ?_ (fun _ _ z => z.elim)
        refine v_iconst F (pc := 105) dX5_place_105 ?_
        refine v_icmp_ne F (pc := 106) (a := -1) (b := -1) 113 dX5_place_106 (by decide) (by omega) (by omega) (fun c_16 => ?_) (fun c_16 => ?_)
        · exact absurd c_16 (by decide)
        · refine v_iconst F (pc := 109) dX5_place_109 ?_
          refine v_goto F (pc := 110) 114 dX5_place_110 (by decide) ?_
          refine v_callVp F (pc := 114) (As := [.int (iI (2))]) (rest := []) ci_X5_84 ct_X5_isFine cs_X5_isFine (k_X5_isFine l g hP hB_14 2 (by omega)) dX5_place_114 (k0 := 8) rfl rfl (mh_0 hP) rfl rfl (Nat.le_of_ble_eq_true rfl) (Nat.le_of_ble_eq_true rfl) (Nat.le_of_ble_eq_true rfl) (Nat.le_of_ble_eq_true rfl) (Nat.le_of_ble_eq_true rfl) ?_ (fun _ _ z => z.elim)
          have hB_17 : MB (su (su (su (su (su (su (su σ 0 0 (pl_c1 σ n p w c)) 11 (σ 17 0) n) 12 (σ 17 0) p) 13 (σ 17 0) w) 14 (σ 17 0) c) 10 (σ 17 0) (σ 18 0)) 0 0 2) := mb_su hB_14 (show (0 : Int) ≤ 2 ∧ 2 ≤ (3 : Int) from by omega)
          refine v_if_neB F (pc := 117) (b := (decide (2 = 0))) 122 dX5_place_117 (by decide) (fun c_18 => ?_) (fun c_18 => ?_)
          · exact absurd c_18 (by decide)
          · refine v_iconst F (pc := 120) dX5_place_120 ?_
            refine v_iret F (pc := 121) (z := (iI (0))) dX5_place_121 rfl rfl (Nat.le_of_ble_eq_true rfl) (Nat.le_of_ble_eq_true rfl) ?_
            exact ⟨by rw [show pl_a σ n p w c = 0 from if_neg (by unfold pl_c; rw [if_pos c0, if_pos hq']; decide)], by rw [show pl_s σ n p w c = su (pl_S σ n p w c) 0 0 2 from by unfold pl_s; rw [if_pos c0, if_pos hq']]; rfl⟩
      · have hq' : ¬ pl_r σ n p w c = -1 := hq
        rw [m_put_some hq, show (su (su (su (su (su (su σ 0 0 (pl_c1 σ n p w c)) 11 (σ 17 0) n) 12 (σ 17 0) p) 13 (σ 17 0) w) 14 (σ 17 0) c) 10 (σ 17 0) (σ 18 0)) 11 (σ 17 0) = n from iup_s _ _ _, show (su (su (su (su (su (su σ 0 0 (pl_c1 σ n p w c)) 11 (σ 17 0) n) 12 (σ 17 0) p) 13 (σ 17 0) w) 14 (σ 17 0) c) 10 (σ 17 0) (σ 18 0)) 12 (σ 17 0) = p from iup_s _ _ _, show (su (su (su (su (su (su σ 0 0 (pl_c1 σ n p w c)) 11 (σ 17 0) n) 12 (σ 17 0) p) 13 (σ 17 0) w) 14 (σ 17 0) c) 10 (σ 17 0) (σ 18 0)) 13 (σ 17 0) = w from iup_s _ _ _, show (su (su (su (su (su (su σ 0 0 (pl_c1 σ n p w c)) 11 (σ 17 0) n) 12 (σ 17 0) p) 13 (σ 17 0) w) 14 (σ 17 0) c) 10 (σ 17 0) (σ 18 0)) 14 (σ 17 0) = c from iup_s _ _ _] at t_ mp_
        have sl_ := m_slotIn_rng hB_14 (r := m_pr (su (su (su (su (su (su σ 0 0 (pl_c1 σ n p w c)) 11 (σ 17 0) n) 12 (σ 17 0) p) 13 (σ 17 0) w) 14 (σ 17 0) c) 10 (σ 17 0) (σ 18 0)) (σ 17 0)) (by omega) n p w c
        refine v_callVp F (pc := 102) (As := [.int (iI (σ 17 0))]) (rest := [.ref (P 0)]) (h1 := mheap g P (su (su (su (su (su (su (su (su σ 0 0 (pl_c1 σ n p w c)) 11 (σ 17 0) n) 12 (σ 17 0) p) 13 (σ 17 0) w) 14 (σ 17 0) c) 10 (σ 17 0) (σ 18 0)) 15 (σ 17 0) (m_pr (su (su (su (su (su (su σ 0 0 (pl_c1 σ n p w c)) 11 (σ 17 0) n) 12 (σ 17 0) p) 13 (σ 17 0) w) 14 (σ 17 0) c) 10 (σ 17 0) (σ 18 0)) (σ 17 0))) 16 (σ 17 0) (m_slotIn (su (su (su (su (su (su σ 0 0 (pl_c1 σ n p w c)) 11 (σ 17 0) n) 12 (σ 17 0) p) 13 (σ 17 0) w) 14 (σ 17 0) c) 10 (σ 17 0) (σ 18 0)) (m_pr (su (su (su (su (su (su σ 0 0 (pl_c1 σ n p w c)) 11 (σ 17 0) n) 12 (σ 17 0) p) 13 (σ 17 0) w) 14 (σ 17 0) c) 10 (σ 17 0) (σ 18 0)) (σ 17 0)) n p w c))) ci_X5_121 ct_X5_puts cs_X5_puts t_ dX5_place_102 (k0 := 8) rfl rfl (mh_0 hP) rfl rfl (Nat.le_of_ble_eq_true rfl) (Nat.le_of_ble_eq_true rfl) (Nat.le_of_ble_eq_true rfl) (Nat.le_of_ble_eq_true rfl) (Nat.le_of_ble_eq_true rfl) ?_ (fun _ _ z => z.elim)
        refine v_iconst F (pc := 105) dX5_place_105 ?_
        refine v_icmp_ne F (pc := 106) (a := m_pr (su (su (su (su (su (su σ 0 0 (pl_c1 σ n p w c)) 11 (σ 17 0) n) 12 (σ 17 0) p) 13 (σ 17 0) w) 14 (σ 17 0) c) 10 (σ 17 0) (σ 18 0)) (σ 17 0)) (b := -1) 113 dX5_place_106 (by decide) (by omega) (by omega) (fun c_19 => ?_) (fun c_19 => ?_)
        · refine v_iconst F (pc := 113) dX5_place_113 ?_
          refine v_callVp F (pc := 114) (As := [.int (iI (0))]) (rest := []) ci_X5_84 ct_X5_isFine cs_X5_isFine (k_X5_isFine l g hP mp_ 0 (by omega)) dX5_place_114 (k0 := 8) rfl rfl (mh_0 hP) rfl rfl (Nat.le_of_ble_eq_true rfl) (Nat.le_of_ble_eq_true rfl) (Nat.le_of_ble_eq_true rfl) (Nat.le_of_ble_eq_true rfl) (Nat.le_of_ble_eq_true rfl) ?_ (fun _ _ z => z.elim)
          have hB_20 : MB (su (su (su (su (su (su (su (su (su σ 0 0 (pl_c1 σ n p w c)) 11 (σ 17 0) n) 12 (σ 17 0) p) 13 (σ 17 0) w) 14 (σ 17 0) c) 10 (σ 17 0) (σ 18 0)) 15 (σ 17 0) (m_pr (su (su (su (su (su (su σ 0 0 (pl_c1 σ n p w c)) 11 (σ 17 0) n) 12 (σ 17 0) p) 13 (σ 17 0) w) 14 (σ 17 0) c) 10 (σ 17 0) (σ 18 0)) (σ 17 0))) 16 (σ 17 0) (m_slotIn (su (su (su (su (su (su σ 0 0 (pl_c1 σ n p w c)) 11 (σ 17 0) n) 12 (σ 17 0) p) 13 (σ 17 0) w) 14 (σ 17 0) c) 10 (σ 17 0) (σ 18 0)) (m_pr (su (su (su (su (su (su σ 0 0 (pl_c1 σ n p w c)) 11 (σ 17 0) n) 12 (σ 17 0) p) 13 (σ 17 0) w) 14 (σ 17 0) c) 10 (σ 17 0) (σ 18 0)) (σ 17 0)) n p w c)) 0 0 0) := mb_su mp_ (show (0 : Int) ≤ 0 ∧ 0 ≤ (3 : Int) from by omega)
          refine v_if_neB F (pc := 117) (b := (decide (0 = 0))) 122 dX5_place_117 (by decide) (fun c_21 => ?_) (fun c_21 => ?_)
          · refine v_aload_n F (pc := 122) dX5_place_122 rfl ?_
            refine v_dup F (pc := 123) dX5_place_123 rfl ?_
            refine v_getf F (pc := 124) fd_X5_73_8 (v := .int (iI (σ 17 0))) dX5_place_124 (mh_0 hP) rfl ?_
            have b_22 : (0 : Int) ≤ σ 17 0 ∧ σ 17 0 ≤ (60 : Int) := hB_20 17 0 (by decide) (by decide)
            refine v_iconst F (pc := 127) dX5_place_127 ?_
            refine v_iadd F (pc := 128) (a := σ 17 0) (b := 1) dX5_place_128 ?_
            refine v_putf F (pc := 129) fp_X5_73_8 dX5_place_129 (mh_0 hP) rfl rfl (Nat.le_of_ble_eq_true rfl) (h' := mheap g P (su (su (su (su (su (su (su (su (su (su σ 0 0 (pl_c1 σ n p w c)) 11 (σ 17 0) n) 12 (σ 17 0) p) 13 (σ 17 0) w) 14 (σ 17 0) c) 10 (σ 17 0) (σ 18 0)) 15 (σ 17 0) (m_pr (su (su (su (su (su (su σ 0 0 (pl_c1 σ n p w c)) 11 (σ 17 0) n) 12 (σ 17 0) p) 13 (σ 17 0) w) 14 (σ 17 0) c) 10 (σ 17 0) (σ 18 0)) (σ 17 0))) 16 (σ 17 0) (m_slotIn (su (su (su (su (su (su σ 0 0 (pl_c1 σ n p w c)) 11 (σ 17 0) n) 12 (σ 17 0) p) 13 (σ 17 0) w) 14 (σ 17 0) c) 10 (σ 17 0) (σ 18 0)) (m_pr (su (su (su (su (su (su σ 0 0 (pl_c1 σ n p w c)) 11 (σ 17 0) n) 12 (σ 17 0) p) 13 (σ 17 0) w) 14 (σ 17 0) c) 10 (σ 17 0) (σ 18 0)) (σ 17 0)) n p w c)) 0 0 0) 17 0 ((σ 17 0) + 1))) (mu_17 hP ((σ 17 0) + 1)) ?_
            have hB_23 : MB (su (su (su (su (su (su (su (su (su (su σ 0 0 (pl_c1 σ n p w c)) 11 (σ 17 0) n) 12 (σ 17 0) p) 13 (σ 17 0) w) 14 (σ 17 0) c) 10 (σ 17 0) (σ 18 0)) 15 (σ 17 0) (m_pr (su (su (su (su (su (su σ 0 0 (pl_c1 σ n p w c)) 11 (σ 17 0) n) 12 (σ 17 0) p) 13 (σ 17 0) w) 14 (σ 17 0) c) 10 (σ 17 0) (σ 18 0)) (σ 17 0))) 16 (σ 17 0) (m_slotIn (su (su (su (su (su (su σ 0 0 (pl_c1 σ n p w c)) 11 (σ 17 0) n) 12 (σ 17 0) p) 13 (σ 17 0) w) 14 (σ 17 0) c) 10 (σ 17 0) (σ 18 0)) (m_pr (su (su (su (su (su (su σ 0 0 (pl_c1 σ n p w c)) 11 (σ 17 0) n) 12 (σ 17 0) p) 13 (σ 17 0) w) 14 (σ 17 0) c) 10 (σ 17 0) (σ 18 0)) (σ 17 0)) n p w c)) 0 0 0) 17 0 ((σ 17 0) + 1)) := mb_su hB_20 (show (0 : Int) ≤ (σ 17 0) + 1 ∧ (σ 17 0) + 1 ≤ (60 : Int) from by omega)
            refine v_aload_n F (pc := 132) dX5_place_132 rfl ?_
            refine v_dup F (pc := 133) dX5_place_133 rfl ?_
            refine v_getf F (pc := 134) fd_X5_118_8 (v := .int (iI (σ 18 0))) dX5_place_134 (mh_0 hP) rfl ?_
            have b_24 : (0 : Int) ≤ σ 18 0 ∧ σ 18 0 ≤ (1000000 : Int) := hB_23 18 0 (by decide) (by decide)
            refine v_iconst F (pc := 137) dX5_place_137 ?_
            refine v_iadd F (pc := 138) (a := σ 18 0) (b := 1) dX5_place_138 ?_
            refine v_putf F (pc := 139) fp_X5_118_8 dX5_place_139 (mh_0 hP) rfl rfl (Nat.le_of_ble_eq_true rfl) (h' := mheap g P (su (su (su (su (su (su (su (su (su (su (su σ 0 0 (pl_c1 σ n p w c)) 11 (σ 17 0) n) 12 (σ 17 0) p) 13 (σ 17 0) w) 14 (σ 17 0) c) 10 (σ 17 0) (σ 18 0)) 15 (σ 17 0) (m_pr (su (su (su (su (su (su σ 0 0 (pl_c1 σ n p w c)) 11 (σ 17 0) n) 12 (σ 17 0) p) 13 (σ 17 0) w) 14 (σ 17 0) c) 10 (σ 17 0) (σ 18 0)) (σ 17 0))) 16 (σ 17 0) (m_slotIn (su (su (su (su (su (su σ 0 0 (pl_c1 σ n p w c)) 11 (σ 17 0) n) 12 (σ 17 0) p) 13 (σ 17 0) w) 14 (σ 17 0) c) 10 (σ 17 0) (σ 18 0)) (m_pr (su (su (su (su (su (su σ 0 0 (pl_c1 σ n p w c)) 11 (σ 17 0) n) 12 (σ 17 0) p) 13 (σ 17 0) w) 14 (σ 17 0) c) 10 (σ 17 0) (σ 18 0)) (σ 17 0)) n p w c)) 0 0 0) 17 0 ((σ 17 0) + 1)) 18 0 ((σ 18 0) + 1))) (mu_18 hP ((σ 18 0) + 1)) ?_
            have hB_25 : MB (su (su (su (su (su (su (su (su (su (su (su σ 0 0 (pl_c1 σ n p w c)) 11 (σ 17 0) n) 12 (σ 17 0) p) 13 (σ 17 0) w) 14 (σ 17 0) c) 10 (σ 17 0) (σ 18 0)) 15 (σ 17 0) (m_pr (su (su (su (su (su (su σ 0 0 (pl_c1 σ n p w c)) 11 (σ 17 0) n) 12 (σ 17 0) p) 13 (σ 17 0) w) 14 (σ 17 0) c) 10 (σ 17 0) (σ 18 0)) (σ 17 0))) 16 (σ 17 0) (m_slotIn (su (su (su (su (su (su σ 0 0 (pl_c1 σ n p w c)) 11 (σ 17 0) n) 12 (σ 17 0) p) 13 (σ 17 0) w) 14 (σ 17 0) c) 10 (σ 17 0) (σ 18 0)) (m_pr (su (su (su (su (su (su σ 0 0 (pl_c1 σ n p w c)) 11 (σ 17 0) n) 12 (σ 17 0) p) 13 (σ 17 0) w) 14 (σ 17 0) c) 10 (σ 17 0) (σ 18 0)) (σ 17 0)) n p w c)) 0 0 0) 17 0 ((σ 17 0) + 1)) 18 0 ((σ 18 0) + 1)) := mb_su hB_23 (show (0 : Int) ≤ (σ 18 0) + 1 ∧ (σ 18 0) + 1 ≤ (1000000 : Int) from by omega)
            refine v_aload_n F (pc := 142) dX5_place_142 rfl ?_
            refine v_getf F (pc := 143) fd_X5_118_8 (v := .int (iI ((σ 18 0) + 1))) dX5_place_143 (mh_0 hP) rfl ?_
            have b_26 : (0 : Int) ≤ (σ 18 0) + 1 ∧ (σ 18 0) + 1 ≤ (1000000 : Int) := hB_25 18 0 (by decide) (by decide)
            refine v_iconst F (pc := 146) dX5_place_146 ?_
            refine v_isub F (pc := 147) (a := (σ 18 0) + 1) (b := 1) dX5_place_147 ?_
            refine v_iret F (pc := 148) (z := (iI (((σ 18 0) + 1) - 1))) dX5_place_148 rfl rfl (Nat.le_of_ble_eq_true rfl) (Nat.le_of_ble_eq_true rfl) ?_
            exact ⟨congrArg (fun z => some (Value.int (iI z))) (by rw [show pl_a σ n p w c = σ 18 0 from if_pos (by unfold pl_c; rw [if_pos c0, if_neg hq'])]; omega), by rw [show pl_s σ n p w c = su (su (su (su (su (pl_S σ n p w c) 15 (σ 17 0) (pl_r σ n p w c)) 16 (σ 17 0) (pl_t σ n p w c)) 0 0 0) 17 0 (σ 17 0 + 1)) 18 0 (σ 18 0 + 1) from by unfold pl_s; rw [if_pos c0, if_neg hq']]; rfl⟩
          · exact absurd c_21 (by decide)
        · exact absurd c_19 hq
    · have c1 := of_decide_eq_false c_3
      refine v_iconst F (pc := 40) dX5_place_40 ?_
      refine v_iret F (pc := 41) (z := (iI (0))) dX5_place_41 rfl rfl (Nat.le_of_ble_eq_true rfl) (Nat.le_of_ble_eq_true rfl) ?_
      exact ⟨by rw [show pl_a σ n p w c = 0 from if_neg (by unfold pl_c; rw [if_neg c1]; exact c1)], by rw [show pl_s σ n p w c = su σ 0 0 (pl_c1 σ n p w c) from if_neg c1]⟩
  refine v_iload F (pc := 11) dX5_place_11 rfl ?_
  refine v_if_neB F (pc := 13) (b := (m_kind n p w c)) 20 dX5_place_13 (by decide) (fun c_27 => ?_) (fun c_27 => ?_)
  · refine v_aload_n F (pc := 20) dX5_place_20 rfl ?_
    refine v_getf F (pc := 21) fd_X5_73_8 (v := .int (iI (σ 17 0))) dX5_place_21 (mh_0 hP) rfl ?_
    have b_28 : (0 : Int) ≤ σ 17 0 ∧ σ 17 0 ≤ (60 : Int) := hB 17 0 (by decide) (by decide)
    refine v_bipush F (pc := 24) dX5_place_24 (by decide) ?_
    refine v_icmp_ne F (pc := 26) (a := σ 17 0) (b := 60) 33 dX5_place_26 (by decide) (by omega) (by omega) (fun c_29 => ?_) (fun c_29 => ?_)
    · refine v_iconst F (pc := 33) dX5_place_33 ?_
      have rc := pl_c1_rng σ n p w c
      exact V.to J_1 rfl rfl (by exact congrArg (fun z => Value.int (iI z) :: [.ref (P 0)]) (show (0 : Int) = pl_c1 σ n p w c by simp only [pl_c1]; (repeat' split) <;> first | rfl | omega | (exfalso; omega) | simp_all))
    · refine v_iconst F (pc := 29) dX5_place_29 ?_
      refine v_goto F (pc := 30) 34 dX5_place_30 (by decide) ?_
      have rc := pl_c1_rng σ n p w c
      exact V.to J_1 rfl rfl (by exact congrArg (fun z => Value.int (iI z) :: [.ref (P 0)]) (show (2 : Int) = pl_c1 σ n p w c by simp only [pl_c1]; (repeat' split) <;> first | rfl | omega | (exfalso; omega) | simp_all))
  · refine v_iconst F (pc := 16) dX5_place_16 ?_
    refine v_goto F (pc := 17) 34 dX5_place_17 (by decide) ?_
    have rc := pl_c1_rng σ n p w c
    exact V.to J_1 rfl rfl (by exact congrArg (fun z => Value.int (iI z) :: [.ref (P 0)]) (show (1 : Int) = pl_c1 σ n p w c by simp only [pl_c1]; (repeat' split) <;> first | rfl | omega | (exfalso; omega) | simp_all))
-- X5_takeOut
set_option maxRecDepth 100000 in
set_option maxHeartbeats 8000000 in
theorem k_X5_takeOut (l : Launch) (g : gT) {P : Nat → Nat} {σ : sT} (hP : mok P) (hB : MB σ) (num : Int) (hnum : -2147483648 ≤ num ∧ num ≤ 2147483647) : CM l g yX5_takeOut cX5_takeOut 5 (some .int) ({ frames := 2, cells := 0, slots := 0, locals := 42 }) [.ref (P 0), .int (iI (num))] (mheap g P σ) (pV (some (.int (iI (tO_a σ num)))) (mheap g P (tO_s σ num))) (noX) := by
  refine CM.of (lo := [some (.ref (P 0)), some (.int (iI (num))), none, none, none]) (by decide) (Nat.le_of_ble_eq_true rfl) (by simp [Value.category]) rfl ?_
  intro pX eX sX mX bX tX cX AX F htab hmn
  have F : Fx pX l sX mX ([.ref (P 0), .int (iI (num))] : List Value).toArray tX cX cX5_takeOut 5 (some .int) RX5 g AX := F
  have bm : (0 : Int) ≤ σ 17 0 ∧ σ 17 0 ≤ (60 : Int) := mb_nm hB
  have br : (0 : Int) ≤ σ 5 0 ∧ σ 5 0 ≤ (8 : Int) := mb_nr hB
  refine v_aload_n F (pc := 0) dX5_takeOut_0 rfl ?_
  refine v_iload_n F (pc := 1) dX5_takeOut_1 rfl ?_
  refine v_callVp F (pc := 2) (As := [.int (iI (num))]) (rest := []) ci_X5_124 ct_X5_find cs_X5_find (k_X5_find l g hP hB num (by omega)) dX5_takeOut_2 (k0 := 8) rfl rfl (mh_0 hP) rfl rfl (Nat.le_of_ble_eq_true rfl) (Nat.le_of_ble_eq_true rfl) (Nat.le_of_ble_eq_true rfl) (Nat.le_of_ble_eq_true rfl) (Nat.le_of_ble_eq_true rfl) ?_ (fun _ _ z => z.elim)
  have rg_1 := m_find_rng hB num
  refine v_istore_n F (pc := 5) (lo' := [some (.ref (P 0)), some (.int (iI (num))), some (.int (iI (m_find σ num))), none, none]) dX5_takeOut_5 (Nat.le_of_ble_eq_true rfl) rfl ?_
  refine v_aload_n F (pc := 6) dX5_takeOut_6 rfl ?_
  have J_2 : VE pX l eX ({ frames := 2, cells := 0, slots := 0, locals := 42 }) sX mX ([.ref (P 0), .int (iI (num))] : List Value).toArray bX tX cX 5 g AX (mheap g P σ) 0 0 17 [some (.ref (P 0)), some (.int (iI (num))), some (.int (iI (m_find σ num))), none, none] [.int (iI (fnd_c σ num)), .ref (P 0)] (pV (some (.int (iI (tO_a σ num)))) (mheap g P (tO_s σ num))) (noX) 0 0 := by
    have rc := fnd_c_rng σ num
    refine v_callVp F (pc := 17) (As := [.int (iI (fnd_c σ num))]) (rest := []) ci_X5_84 ct_X5_isFine cs_X5_isFine (k_X5_isFine l g hP hB (fnd_c σ num) (by omega)) dX5_takeOut_17 (k0 := 8) rfl rfl (mh_0 hP) rfl rfl (Nat.le_of_ble_eq_true rfl) (Nat.le_of_ble_eq_true rfl) (Nat.le_of_ble_eq_true rfl) (Nat.le_of_ble_eq_true rfl) (Nat.le_of_ble_eq_true rfl) ?_ (fun _ _ z => z.elim)
    have hB_3 : MB (su σ 0 0 (fnd_c σ num)) := mb_su hB (show (0 : Int) ≤ fnd_c σ num ∧ fnd_c σ num ≤ (3 : Int) from by omega)
    refine v_if_neB F (pc := 20) (b := (decide (fnd_c σ num = 0))) 25 dX5_takeOut_20 (by decide) (fun c_4 => ?_) (fun c_4 => ?_)
    · have c0 := of_decide_eq_true c_4
      have f0 := fnd_c0 hB c0
      refine v_aload_n F (pc := 25) dX5_takeOut_25 rfl ?_
      refine v_getf F (pc := 26) fd_X5_50_8 (v := .ref (P 15)) dX5_takeOut_26 (mh_0 hP) rfl ?_
      refine v_iload_n F (pc := 29) dX5_takeOut_29 rfl ?_
      refine v_iald F (pc := 30) (n := 60) (f := σ 15) (z := m_find σ num) dX5_takeOut_30 (mh_15 hP) (by omega) (by decide) ?_
      have b_5 : (-1 : Int) ≤ (σ 15) (m_find σ num) ∧ (σ 15) (m_find σ num) ≤ (7 : Int) := hB_3 15 (m_find σ num) (by omega) (show m_find σ num < (60 : Int) by omega)
      refine v_istore_n F (pc := 31) (lo' := [some (.ref (P 0)), some (.int (iI (num))), some (.int (iI (m_find σ num))), some (.int (iI ((σ 15) (m_find σ num)))), none]) dX5_takeOut_31 (Nat.le_of_ble_eq_true rfl) rfl ?_
      refine v_aload_n F (pc := 32) dX5_takeOut_32 rfl ?_
      refine v_dup F (pc := 33) dX5_takeOut_33 rfl ?_
      refine v_getf F (pc := 34) fd_X5_73_8 (v := .int (iI (σ 17 0))) dX5_takeOut_34 (mh_0 hP) rfl ?_
      have b_6 : (0 : Int) ≤ σ 17 0 ∧ σ 17 0 ≤ (60 : Int) := hB_3 17 0 (by decide) (by decide)
      refine v_iconst F (pc := 37) dX5_takeOut_37 ?_
      refine v_isub F (pc := 38) (a := σ 17 0) (b := 1) dX5_takeOut_38 ?_
      refine v_putf F (pc := 39) fp_X5_73_8 dX5_takeOut_39 (mh_0 hP) rfl rfl (Nat.le_of_ble_eq_true rfl) (h' := mheap g P (su (su σ 0 0 (fnd_c σ num)) 17 0 ((σ 17 0) - 1))) (mu_17 hP ((σ 17 0) - 1)) ?_
      have hB_7 : MB (su (su σ 0 0 (fnd_c σ num)) 17 0 ((σ 17 0) - 1)) := mb_su hB_3 (show (0 : Int) ≤ (σ 17 0) - 1 ∧ (σ 17 0) - 1 ≤ (60 : Int) from by omega)
      refine v_iload_n F (pc := 42) dX5_takeOut_42 rfl ?_
      refine v_istore F (pc := 43) (lo' := [some (.ref (P 0)), some (.int (iI (num))), some (.int (iI (m_find σ num))), some (.int (iI ((σ 15) (m_find σ num)))), some (.int (iI (m_find σ num)))]) dX5_takeOut_43 (Nat.le_of_ble_eq_true rfl) rfl ?_
      have hT_ := True.intro
      have LP45 : ∀ (N_ : Nat) (k : Int), (m_find σ num ≤ k) → (k ≤ σ 17 0 - 1) → ((σ 17 0) - k).toNat < N_ → VE pX l eX ({ frames := 2, cells := 0, slots := 0, locals := 42 }) sX mX ([.ref (P 0), .int (iI (num))] : List Value).toArray bX tX cX 5 g AX (mheap g P (m_sh (su (su σ 0 0 (fnd_c σ num)) 17 0 (σ 17 0 - 1)) (m_find σ num) k)) 0 0 45 [some (.ref (P 0)), some (.int (iI (num))), some (.int (iI (m_find σ num))), some (.int (iI (σ 15 (m_find σ num)))), some (.int (iI (k)))] [] (pV (some (.int (iI (tO_a σ num)))) (mheap g P (tO_s σ num))) (noX) 0 0 := by
        intro N_
        induction N_ with
        | zero => intro k _ _ hm_; exact absurd hm_ (Nat.not_lt_zero _)
        | succ N_ ih =>
          intro k hk0 hk1 hm_
          have hBk := mb_sh hB_7 (a := m_find σ num) (k := k) f0.1 (by omega)
          refine v_iload F (pc := 45) dX5_takeOut_45 rfl ?_
          refine v_aload_n F (pc := 47) dX5_takeOut_47 rfl ?_
          refine v_getf F (pc := 48) fd_X5_73_8 (v := .int (iI (σ 17 0 - 1))) dX5_takeOut_48 (mh_0 hP) rfl ?_
          have b_8 : (0 : Int) ≤ σ 17 0 - 1 ∧ σ 17 0 - 1 ≤ (60 : Int) := hBk 17 0 (by decide) (by decide)
          refine v_icmp_ge F (pc := 51) (a := k) (b := σ 17 0 - 1) 172 dX5_takeOut_51 (by decide) (by omega) (by omega) (fun c_9 => ?_) (fun c_9 => ?_)
          · refine v_iload_n F (pc := 172) dX5_takeOut_172 rfl ?_
            refine v_iret F (pc := 173) (z := (iI (σ 15 (m_find σ num)))) dX5_takeOut_173 rfl rfl (Nat.le_of_ble_eq_true rfl) (Nat.le_of_ble_eq_true rfl) ?_
            exact ⟨by rw [show tO_a σ num = σ 15 (m_find σ num) from if_pos c0], by rw [show tO_s σ num = m_sh (su (su σ 0 0 (fnd_c σ num)) 17 0 (σ 17 0 - 1)) (m_find σ num) (σ 17 0 - 1) from if_pos c0, show k = σ 17 0 - 1 by omega]⟩
          · refine v_aload_n F (pc := 54) dX5_takeOut_54 rfl ?_
            refine v_getf F (pc := 55) fd_X5_35_8 (v := .ref (P 10)) dX5_takeOut_55 (mh_0 hP) rfl ?_
            refine v_iload F (pc := 58) dX5_takeOut_58 rfl ?_
            refine v_aload_n F (pc := 60) dX5_takeOut_60 rfl ?_
            refine v_getf F (pc := 61) fd_X5_35_8 (v := .ref (P 10)) dX5_takeOut_61 (mh_0 hP) rfl ?_
            refine v_iload F (pc := 64) dX5_takeOut_64 rfl ?_
            refine v_iconst F (pc := 66) dX5_takeOut_66 ?_
            refine v_iadd F (pc := 67) (a := k) (b := 1) dX5_takeOut_67 ?_
            refine v_iald F (pc := 68) (n := 60) (f := (m_sh (su (su σ 0 0 (fnd_c σ num)) 17 0 (σ 17 0 - 1)) (m_find σ num) k) 10) (z := k + 1) dX5_takeOut_68 (mh_10 hP) (by omega) (by decide) ?_
            have b_10 : (0 : Int) ≤ ((m_sh (su (su σ 0 0 (fnd_c σ num)) 17 0 (σ 17 0 - 1)) (m_find σ num) k) 10) (k + 1) ∧ ((m_sh (su (su σ 0 0 (fnd_c σ num)) 17 0 (σ 17 0 - 1)) (m_find σ num) k) 10) (k + 1) ≤ (1000000 : Int) := hBk 10 (k + 1) (by omega) (show k + 1 < (60 : Int) by omega)
            refine v_iast F (pc := 69) (n := 60) (f := (m_sh (su (su σ 0 0 (fnd_c σ num)) 17 0 (σ 17 0 - 1)) (m_find σ num) k) 10) (z := k) (x := ((m_sh (su (su σ 0 0 (fnd_c σ num)) 17 0 (σ 17 0 - 1)) (m_find σ num) k) 10) (k + 1)) dX5_takeOut_69 (mh_10 hP) (by omega) (by decide)  (h' := mheap g P (su (m_sh (su (su σ 0 0 (fnd_c σ num)) 17 0 (σ 17 0 - 1)) (m_find σ num) k) 10 k (((m_sh (su (su σ 0 0 (fnd_c σ num)) 17 0 (σ 17 0 - 1)) (m_find σ num) k) 10) (k + 1)))) (mu_10 hP k (((m_sh (su (su σ 0 0 (fnd_c σ num)) 17 0 (σ 17 0 - 1)) (m_find σ num) k) 10) (k + 1))) ?_
            have hB_11 : MB (su (m_sh (su (su σ 0 0 (fnd_c σ num)) 17 0 (σ 17 0 - 1)) (m_find σ num) k) 10 k (((m_sh (su (su σ 0 0 (fnd_c σ num)) 17 0 (σ 17 0 - 1)) (m_find σ num) k) 10) (k + 1))) := mb_su hBk (show (0 : Int) ≤ ((m_sh (su (su σ 0 0 (fnd_c σ num)) 17 0 (σ 17 0 - 1)) (m_find σ num) k) 10) (k + 1) ∧ ((m_sh (su (su σ 0 0 (fnd_c σ num)) 17 0 (σ 17 0 - 1)) (m_find σ num) k) 10) (k + 1) ≤ (1000000 : Int) from by omega)
            refine v_aload_n F (pc := 70) dX5_takeOut_70 rfl ?_
            refine v_getf F (pc := 71) fd_X5_38_8 (v := .ref (P 11)) dX5_takeOut_71 (mh_0 hP) rfl ?_
            refine v_iload F (pc := 74) dX5_takeOut_74 rfl ?_
            refine v_aload_n F (pc := 76) dX5_takeOut_76 rfl ?_
            refine v_getf F (pc := 77) fd_X5_38_8 (v := .ref (P 11)) dX5_takeOut_77 (mh_0 hP) rfl ?_
            refine v_iload F (pc := 80) dX5_takeOut_80 rfl ?_
            refine v_iconst F (pc := 82) dX5_takeOut_82 ?_
            refine v_iadd F (pc := 83) (a := k) (b := 1) dX5_takeOut_83 ?_
            refine v_iald F (pc := 84) (n := 60) (f := (m_sh (su (su σ 0 0 (fnd_c σ num)) 17 0 (σ 17 0 - 1)) (m_find σ num) k) 11) (z := k + 1) dX5_takeOut_84 (mh_11 hP) (by omega) (by decide) ?_
            have b_12 : (0 : Int) ≤ ((m_sh (su (su σ 0 0 (fnd_c σ num)) 17 0 (σ 17 0 - 1)) (m_find σ num) k) 11) (k + 1) ∧ ((m_sh (su (su σ 0 0 (fnd_c σ num)) 17 0 (σ 17 0 - 1)) (m_find σ num) k) 11) (k + 1) ≤ (6 : Int) := hB_11 11 (k + 1) (by omega) (show k + 1 < (60 : Int) by omega)
            refine v_iast F (pc := 85) (n := 60) (f := (m_sh (su (su σ 0 0 (fnd_c σ num)) 17 0 (σ 17 0 - 1)) (m_find σ num) k) 11) (z := k) (x := ((m_sh (su (su σ 0 0 (fnd_c σ num)) 17 0 (σ 17 0 - 1)) (m_find σ num) k) 11) (k + 1)) dX5_takeOut_85 (mh_11 hP) (by omega) (by decide)  (h' := mheap g P (su (su (m_sh (su (su σ 0 0 (fnd_c σ num)) 17 0 (σ 17 0 - 1)) (m_find σ num) k) 10 k (((m_sh (su (su σ 0 0 (fnd_c σ num)) 17 0 (σ 17 0 - 1)) (m_find σ num) k) 10) (k + 1))) 11 k (((m_sh (su (su σ 0 0 (fnd_c σ num)) 17 0 (σ 17 0 - 1)) (m_find σ num) k) 11) (k + 1)))) (mu_11 hP k (((m_sh (su (su σ 0 0 (fnd_c σ num)) 17 0 (σ 17 0 - 1)) (m_find σ num) k) 11) (k + 1))) ?_
            have hB_13 : MB (su (su (m_sh (su (su σ 0 0 (fnd_c σ num)) 17 0 (σ 17 0 - 1)) (m_find σ num) k) 10 k (((m_sh (su (su σ 0 0 (fnd_c σ num)) 17 0 (σ 17 0 - 1)) (m_find σ num) k) 10) (k + 1))) 11 k (((m_sh (su (su σ 0 0 (fnd_c σ num)) 17 0 (σ 17 0 - 1)) (m_find σ num) k) 11) (k + 1))) := mb_su hB_11 (show (0 : Int) ≤ ((m_sh (su (su σ 0 0 (fnd_c σ num)) 17 0 (σ 17 0 - 1)) (m_find σ num) k) 11) (k + 1) ∧ ((m_sh (su (su σ 0 0 (fnd_c σ num)) 17 0 (σ 17 0 - 1)) (m_find σ num) k) 11) (k + 1) ≤ (6 : Int) from by omega)
            refine v_aload_n F (pc := 86) dX5_takeOut_86 rfl ?_
            refine v_getf F (pc := 87) fd_X5_41_8 (v := .ref (P 12)) dX5_takeOut_87 (mh_0 hP) rfl ?_
            refine v_iload F (pc := 90) dX5_takeOut_90 rfl ?_
            refine v_aload_n F (pc := 92) dX5_takeOut_92 rfl ?_
            refine v_getf F (pc := 93) fd_X5_41_8 (v := .ref (P 12)) dX5_takeOut_93 (mh_0 hP) rfl ?_
            refine v_iload F (pc := 96) dX5_takeOut_96 rfl ?_
            refine v_iconst F (pc := 98) dX5_takeOut_98 ?_
            refine v_iadd F (pc := 99) (a := k) (b := 1) dX5_takeOut_99 ?_
            refine v_iald F (pc := 100) (n := 60) (f := (m_sh (su (su σ 0 0 (fnd_c σ num)) 17 0 (σ 17 0 - 1)) (m_find σ num) k) 12) (z := k + 1) dX5_takeOut_100 (mh_12 hP) (by omega) (by decide) ?_
            have b_14 : (0 : Int) ≤ ((m_sh (su (su σ 0 0 (fnd_c σ num)) 17 0 (σ 17 0 - 1)) (m_find σ num) k) 12) (k + 1) ∧ ((m_sh (su (su σ 0 0 (fnd_c σ num)) 17 0 (σ 17 0 - 1)) (m_find σ num) k) 12) (k + 1) ≤ (2000 : Int) := hB_13 12 (k + 1) (by omega) (show k + 1 < (60 : Int) by omega)
            refine v_iast F (pc := 101) (n := 60) (f := (m_sh (su (su σ 0 0 (fnd_c σ num)) 17 0 (σ 17 0 - 1)) (m_find σ num) k) 12) (z := k) (x := ((m_sh (su (su σ 0 0 (fnd_c σ num)) 17 0 (σ 17 0 - 1)) (m_find σ num) k) 12) (k + 1)) dX5_takeOut_101 (mh_12 hP) (by omega) (by decide)  (h' := mheap g P (su (su (su (m_sh (su (su σ 0 0 (fnd_c σ num)) 17 0 (σ 17 0 - 1)) (m_find σ num) k) 10 k (((m_sh (su (su σ 0 0 (fnd_c σ num)) 17 0 (σ 17 0 - 1)) (m_find σ num) k) 10) (k + 1))) 11 k (((m_sh (su (su σ 0 0 (fnd_c σ num)) 17 0 (σ 17 0 - 1)) (m_find σ num) k) 11) (k + 1))) 12 k (((m_sh (su (su σ 0 0 (fnd_c σ num)) 17 0 (σ 17 0 - 1)) (m_find σ num) k) 12) (k + 1)))) (mu_12 hP k (((m_sh (su (su σ 0 0 (fnd_c σ num)) 17 0 (σ 17 0 - 1)) (m_find σ num) k) 12) (k + 1))) ?_
            have hB_15 : MB (su (su (su (m_sh (su (su σ 0 0 (fnd_c σ num)) 17 0 (σ 17 0 - 1)) (m_find σ num) k) 10 k (((m_sh (su (su σ 0 0 (fnd_c σ num)) 17 0 (σ 17 0 - 1)) (m_find σ num) k) 10) (k + 1))) 11 k (((m_sh (su (su σ 0 0 (fnd_c σ num)) 17 0 (σ 17 0 - 1)) (m_find σ num) k) 11) (k + 1))) 12 k (((m_sh (su (su σ 0 0 (fnd_c σ num)) 17 0 (σ 17 0 - 1)) (m_find σ num) k) 12) (k + 1))) := mb_su hB_13 (show (0 : Int) ≤ ((m_sh (su (su σ 0 0 (fnd_c σ num)) 17 0 (σ 17 0 - 1)) (m_find σ num) k) 12) (k + 1) ∧ ((m_sh (su (su σ 0 0 (fnd_c σ num)) 17 0 (σ 17 0 - 1)) (m_find σ num) k) 12) (k + 1) ≤ (2000 : Int) from by omega)
            refine v_aload_n F (pc := 102) dX5_takeOut_102 rfl ?_
            refine v_getf F (pc := 103) fd_X5_44_8 (v := .ref (P 13)) dX5_takeOut_103 (mh_0 hP) rfl ?_
            refine v_iload F (pc := 106) dX5_takeOut_106 rfl ?_
            refine v_aload_n F (pc := 108) dX5_takeOut_108 rfl ?_
            refine v_getf F (pc := 109) fd_X5_44_8 (v := .ref (P 13)) dX5_takeOut_109 (mh_0 hP) rfl ?_
            refine v_iload F (pc := 112) dX5_takeOut_112 rfl ?_
            refine v_iconst F (pc := 114) dX5_takeOut_114 ?_
            refine v_iadd F (pc := 115) (a := k) (b := 1) dX5_takeOut_115 ?_
            refine v_iald F (pc := 116) (n := 60) (f := (m_sh (su (su σ 0 0 (fnd_c σ num)) 17 0 (σ 17 0 - 1)) (m_find σ num) k) 13) (z := k + 1) dX5_takeOut_116 (mh_13 hP) (by omega) (by decide) ?_
            have b_16 : (0 : Int) ≤ ((m_sh (su (su σ 0 0 (fnd_c σ num)) 17 0 (σ 17 0 - 1)) (m_find σ num) k) 13) (k + 1) ∧ ((m_sh (su (su σ 0 0 (fnd_c σ num)) 17 0 (σ 17 0 - 1)) (m_find σ num) k) 13) (k + 1) ≤ (1000 : Int) := hB_15 13 (k + 1) (by omega) (show k + 1 < (60 : Int) by omega)
            refine v_iast F (pc := 117) (n := 60) (f := (m_sh (su (su σ 0 0 (fnd_c σ num)) 17 0 (σ 17 0 - 1)) (m_find σ num) k) 13) (z := k) (x := ((m_sh (su (su σ 0 0 (fnd_c σ num)) 17 0 (σ 17 0 - 1)) (m_find σ num) k) 13) (k + 1)) dX5_takeOut_117 (mh_13 hP) (by omega) (by decide)  (h' := mheap g P (su (su (su (su (m_sh (su (su σ 0 0 (fnd_c σ num)) 17 0 (σ 17 0 - 1)) (m_find σ num) k) 10 k (((m_sh (su (su σ 0 0 (fnd_c σ num)) 17 0 (σ 17 0 - 1)) (m_find σ num) k) 10) (k + 1))) 11 k (((m_sh (su (su σ 0 0 (fnd_c σ num)) 17 0 (σ 17 0 - 1)) (m_find σ num) k) 11) (k + 1))) 12 k (((m_sh (su (su σ 0 0 (fnd_c σ num)) 17 0 (σ 17 0 - 1)) (m_find σ num) k) 12) (k + 1))) 13 k (((m_sh (su (su σ 0 0 (fnd_c σ num)) 17 0 (σ 17 0 - 1)) (m_find σ num) k) 13) (k + 1)))) (mu_13 hP k (((m_sh (su (su σ 0 0 (fnd_c σ num)) 17 0 (σ 17 0 - 1)) (m_find σ num) k) 13) (k + 1))) ?_
            have hB_17 : MB (su (su (su (su (m_sh (su (su σ 0 0 (fnd_c σ num)) 17 0 (σ 17 0 - 1)) (m_find σ num) k) 10 k (((m_sh (su (su σ 0 0 (fnd_c σ num)) 17 0 (σ 17 0 - 1)) (m_find σ num) k) 10) (k + 1))) 11 k (((m_sh (su (su σ 0 0 (fnd_c σ num)) 17 0 (σ 17 0 - 1)) (m_find σ num) k) 11) (k + 1))) 12 k (((m_sh (su (su σ 0 0 (fnd_c σ num)) 17 0 (σ 17 0 - 1)) (m_find σ num) k) 12) (k + 1))) 13 k (((m_sh (su (su σ 0 0 (fnd_c σ num)) 17 0 (σ 17 0 - 1)) (m_find σ num) k) 13) (k + 1))) := mb_su hB_15 (show (0 : Int) ≤ ((m_sh (su (su σ 0 0 (fnd_c σ num)) 17 0 (σ 17 0 - 1)) (m_find σ num) k) 13) (k + 1) ∧ ((m_sh (su (su σ 0 0 (fnd_c σ num)) 17 0 (σ 17 0 - 1)) (m_find σ num) k) 13) (k + 1) ≤ (1000 : Int) from by omega)
            refine v_aload_n F (pc := 118) dX5_takeOut_118 rfl ?_
            refine v_getf F (pc := 119) fd_X5_47_8 (v := .ref (P 14)) dX5_takeOut_119 (mh_0 hP) rfl ?_
            refine v_iload F (pc := 122) dX5_takeOut_122 rfl ?_
            refine v_aload_n F (pc := 124) dX5_takeOut_124 rfl ?_
            refine v_getf F (pc := 125) fd_X5_47_8 (v := .ref (P 14)) dX5_takeOut_125 (mh_0 hP) rfl ?_
            refine v_iload F (pc := 128) dX5_takeOut_128 rfl ?_
            refine v_iconst F (pc := 130) dX5_takeOut_130 ?_
            refine v_iadd F (pc := 131) (a := k) (b := 1) dX5_takeOut_131 ?_
            refine v_iald F (pc := 132) (n := 60) (f := (m_sh (su (su σ 0 0 (fnd_c σ num)) 17 0 (σ 17 0 - 1)) (m_find σ num) k) 14) (z := k + 1) dX5_takeOut_132 (mh_14 hP) (by omega) (by decide) ?_
            have b_18 : (0 : Int) ≤ ((m_sh (su (su σ 0 0 (fnd_c σ num)) 17 0 (σ 17 0 - 1)) (m_find σ num) k) 14) (k + 1) ∧ ((m_sh (su (su σ 0 0 (fnd_c σ num)) 17 0 (σ 17 0 - 1)) (m_find σ num) k) 14) (k + 1) ≤ (2 : Int) := hB_17 14 (k + 1) (by omega) (show k + 1 < (60 : Int) by omega)
            refine v_iast F (pc := 133) (n := 60) (f := (m_sh (su (su σ 0 0 (fnd_c σ num)) 17 0 (σ 17 0 - 1)) (m_find σ num) k) 14) (z := k) (x := ((m_sh (su (su σ 0 0 (fnd_c σ num)) 17 0 (σ 17 0 - 1)) (m_find σ num) k) 14) (k + 1)) dX5_takeOut_133 (mh_14 hP) (by omega) (by decide)  (h' := mheap g P (su (su (su (su (su (m_sh (su (su σ 0 0 (fnd_c σ num)) 17 0 (σ 17 0 - 1)) (m_find σ num) k) 10 k (((m_sh (su (su σ 0 0 (fnd_c σ num)) 17 0 (σ 17 0 - 1)) (m_find σ num) k) 10) (k + 1))) 11 k (((m_sh (su (su σ 0 0 (fnd_c σ num)) 17 0 (σ 17 0 - 1)) (m_find σ num) k) 11) (k + 1))) 12 k (((m_sh (su (su σ 0 0 (fnd_c σ num)) 17 0 (σ 17 0 - 1)) (m_find σ num) k) 12) (k + 1))) 13 k (((m_sh (su (su σ 0 0 (fnd_c σ num)) 17 0 (σ 17 0 - 1)) (m_find σ num) k) 13) (k + 1))) 14 k (((m_sh (su (su σ 0 0 (fnd_c σ num)) 17 0 (σ 17 0 - 1)) (m_find σ num) k) 14) (k + 1)))) (mu_14 hP k (((m_sh (su (su σ 0 0 (fnd_c σ num)) 17 0 (σ 17 0 - 1)) (m_find σ num) k) 14) (k + 1))) ?_
            have hB_19 : MB (su (su (su (su (su (m_sh (su (su σ 0 0 (fnd_c σ num)) 17 0 (σ 17 0 - 1)) (m_find σ num) k) 10 k (((m_sh (su (su σ 0 0 (fnd_c σ num)) 17 0 (σ 17 0 - 1)) (m_find σ num) k) 10) (k + 1))) 11 k (((m_sh (su (su σ 0 0 (fnd_c σ num)) 17 0 (σ 17 0 - 1)) (m_find σ num) k) 11) (k + 1))) 12 k (((m_sh (su (su σ 0 0 (fnd_c σ num)) 17 0 (σ 17 0 - 1)) (m_find σ num) k) 12) (k + 1))) 13 k (((m_sh (su (su σ 0 0 (fnd_c σ num)) 17 0 (σ 17 0 - 1)) (m_find σ num) k) 13) (k + 1))) 14 k (((m_sh (su (su σ 0 0 (fnd_c σ num)) 17 0 (σ 17 0 - 1)) (m_find σ num) k) 14) (k + 1))) := mb_su hB_17 (show (0 : Int) ≤ ((m_sh (su (su σ 0 0 (fnd_c σ num)) 17 0 (σ 17 0 - 1)) (m_find σ num) k) 14) (k + 1) ∧ ((m_sh (su (su σ 0 0 (fnd_c σ num)) 17 0 (σ 17 0 - 1)) (m_find σ num) k) 14) (k + 1) ≤ (2 : Int) from by omega)
            refine v_aload_n F (pc := 134) dX5_takeOut_134 rfl ?_
            refine v_getf F (pc := 135) fd_X5_50_8 (v := .ref (P 15)) dX5_takeOut_135 (mh_0 hP) rfl ?_
            refine v_iload F (pc := 138) dX5_takeOut_138 rfl ?_
            refine v_aload_n F (pc := 140) dX5_takeOut_140 rfl ?_
            refine v_getf F (pc := 141) fd_X5_50_8 (v := .ref (P 15)) dX5_takeOut_141 (mh_0 hP) rfl ?_
            refine v_iload F (pc := 144) dX5_takeOut_144 rfl ?_
            refine v_iconst F (pc := 146) dX5_takeOut_146 ?_
            refine v_iadd F (pc := 147) (a := k) (b := 1) dX5_takeOut_147 ?_
            refine v_iald F (pc := 148) (n := 60) (f := (m_sh (su (su σ 0 0 (fnd_c σ num)) 17 0 (σ 17 0 - 1)) (m_find σ num) k) 15) (z := k + 1) dX5_takeOut_148 (mh_15 hP) (by omega) (by decide) ?_
            have b_20 : (-1 : Int) ≤ ((m_sh (su (su σ 0 0 (fnd_c σ num)) 17 0 (σ 17 0 - 1)) (m_find σ num) k) 15) (k + 1) ∧ ((m_sh (su (su σ 0 0 (fnd_c σ num)) 17 0 (σ 17 0 - 1)) (m_find σ num) k) 15) (k + 1) ≤ (7 : Int) := hB_19 15 (k + 1) (by omega) (show k + 1 < (60 : Int) by omega)
            refine v_iast F (pc := 149) (n := 60) (f := (m_sh (su (su σ 0 0 (fnd_c σ num)) 17 0 (σ 17 0 - 1)) (m_find σ num) k) 15) (z := k) (x := ((m_sh (su (su σ 0 0 (fnd_c σ num)) 17 0 (σ 17 0 - 1)) (m_find σ num) k) 15) (k + 1)) dX5_takeOut_149 (mh_15 hP) (by omega) (by decide)  (h' := mheap g P (su (su (su (su (su (su (m_sh (su (su σ 0 0 (fnd_c σ num)) 17 0 (σ 17 0 - 1)) (m_find σ num) k) 10 k (((m_sh (su (su σ 0 0 (fnd_c σ num)) 17 0 (σ 17 0 - 1)) (m_find σ num) k) 10) (k + 1))) 11 k (((m_sh (su (su σ 0 0 (fnd_c σ num)) 17 0 (σ 17 0 - 1)) (m_find σ num) k) 11) (k + 1))) 12 k (((m_sh (su (su σ 0 0 (fnd_c σ num)) 17 0 (σ 17 0 - 1)) (m_find σ num) k) 12) (k + 1))) 13 k (((m_sh (su (su σ 0 0 (fnd_c σ num)) 17 0 (σ 17 0 - 1)) (m_find σ num) k) 13) (k + 1))) 14 k (((m_sh (su (su σ 0 0 (fnd_c σ num)) 17 0 (σ 17 0 - 1)) (m_find σ num) k) 14) (k + 1))) 15 k (((m_sh (su (su σ 0 0 (fnd_c σ num)) 17 0 (σ 17 0 - 1)) (m_find σ num) k) 15) (k + 1)))) (mu_15 hP k (((m_sh (su (su σ 0 0 (fnd_c σ num)) 17 0 (σ 17 0 - 1)) (m_find σ num) k) 15) (k + 1))) ?_
            have hB_21 : MB (su (su (su (su (su (su (m_sh (su (su σ 0 0 (fnd_c σ num)) 17 0 (σ 17 0 - 1)) (m_find σ num) k) 10 k (((m_sh (su (su σ 0 0 (fnd_c σ num)) 17 0 (σ 17 0 - 1)) (m_find σ num) k) 10) (k + 1))) 11 k (((m_sh (su (su σ 0 0 (fnd_c σ num)) 17 0 (σ 17 0 - 1)) (m_find σ num) k) 11) (k + 1))) 12 k (((m_sh (su (su σ 0 0 (fnd_c σ num)) 17 0 (σ 17 0 - 1)) (m_find σ num) k) 12) (k + 1))) 13 k (((m_sh (su (su σ 0 0 (fnd_c σ num)) 17 0 (σ 17 0 - 1)) (m_find σ num) k) 13) (k + 1))) 14 k (((m_sh (su (su σ 0 0 (fnd_c σ num)) 17 0 (σ 17 0 - 1)) (m_find σ num) k) 14) (k + 1))) 15 k (((m_sh (su (su σ 0 0 (fnd_c σ num)) 17 0 (σ 17 0 - 1)) (m_find σ num) k) 15) (k + 1))) := mb_su hB_19 (show (-1 : Int) ≤ ((m_sh (su (su σ 0 0 (fnd_c σ num)) 17 0 (σ 17 0 - 1)) (m_find σ num) k) 15) (k + 1) ∧ ((m_sh (su (su σ 0 0 (fnd_c σ num)) 17 0 (σ 17 0 - 1)) (m_find σ num) k) 15) (k + 1) ≤ (7 : Int) from by omega)
            refine v_aload_n F (pc := 150) dX5_takeOut_150 rfl ?_
            refine v_getf F (pc := 151) fd_X5_53_8 (v := .ref (P 16)) dX5_takeOut_151 (mh_0 hP) rfl ?_
            refine v_iload F (pc := 154) dX5_takeOut_154 rfl ?_
            refine v_aload_n F (pc := 156) dX5_takeOut_156 rfl ?_
            refine v_getf F (pc := 157) fd_X5_53_8 (v := .ref (P 16)) dX5_takeOut_157 (mh_0 hP) rfl ?_
            refine v_iload F (pc := 160) dX5_takeOut_160 rfl ?_
            refine v_iconst F (pc := 162) dX5_takeOut_162 ?_
            refine v_iadd F (pc := 163) (a := k) (b := 1) dX5_takeOut_163 ?_
            refine v_iald F (pc := 164) (n := 60) (f := (m_sh (su (su σ 0 0 (fnd_c σ num)) 17 0 (σ 17 0 - 1)) (m_find σ num) k) 16) (z := k + 1) dX5_takeOut_164 (mh_16 hP) (by omega) (by decide) ?_
            have b_22 : (0 : Int) ≤ ((m_sh (su (su σ 0 0 (fnd_c σ num)) 17 0 (σ 17 0 - 1)) (m_find σ num) k) 16) (k + 1) ∧ ((m_sh (su (su σ 0 0 (fnd_c σ num)) 17 0 (σ 17 0 - 1)) (m_find σ num) k) 16) (k + 1) ≤ (19 : Int) := hB_21 16 (k + 1) (by omega) (show k + 1 < (60 : Int) by omega)
            refine v_iast F (pc := 165) (n := 60) (f := (m_sh (su (su σ 0 0 (fnd_c σ num)) 17 0 (σ 17 0 - 1)) (m_find σ num) k) 16) (z := k) (x := ((m_sh (su (su σ 0 0 (fnd_c σ num)) 17 0 (σ 17 0 - 1)) (m_find σ num) k) 16) (k + 1)) dX5_takeOut_165 (mh_16 hP) (by omega) (by decide)  (h' := mheap g P (su (su (su (su (su (su (su (m_sh (su (su σ 0 0 (fnd_c σ num)) 17 0 (σ 17 0 - 1)) (m_find σ num) k) 10 k (((m_sh (su (su σ 0 0 (fnd_c σ num)) 17 0 (σ 17 0 - 1)) (m_find σ num) k) 10) (k + 1))) 11 k (((m_sh (su (su σ 0 0 (fnd_c σ num)) 17 0 (σ 17 0 - 1)) (m_find σ num) k) 11) (k + 1))) 12 k (((m_sh (su (su σ 0 0 (fnd_c σ num)) 17 0 (σ 17 0 - 1)) (m_find σ num) k) 12) (k + 1))) 13 k (((m_sh (su (su σ 0 0 (fnd_c σ num)) 17 0 (σ 17 0 - 1)) (m_find σ num) k) 13) (k + 1))) 14 k (((m_sh (su (su σ 0 0 (fnd_c σ num)) 17 0 (σ 17 0 - 1)) (m_find σ num) k) 14) (k + 1))) 15 k (((m_sh (su (su σ 0 0 (fnd_c σ num)) 17 0 (σ 17 0 - 1)) (m_find σ num) k) 15) (k + 1))) 16 k (((m_sh (su (su σ 0 0 (fnd_c σ num)) 17 0 (σ 17 0 - 1)) (m_find σ num) k) 16) (k + 1)))) (mu_16 hP k (((m_sh (su (su σ 0 0 (fnd_c σ num)) 17 0 (σ 17 0 - 1)) (m_find σ num) k) 16) (k + 1))) ?_
            have hB_23 : MB (su (su (su (su (su (su (su (m_sh (su (su σ 0 0 (fnd_c σ num)) 17 0 (σ 17 0 - 1)) (m_find σ num) k) 10 k (((m_sh (su (su σ 0 0 (fnd_c σ num)) 17 0 (σ 17 0 - 1)) (m_find σ num) k) 10) (k + 1))) 11 k (((m_sh (su (su σ 0 0 (fnd_c σ num)) 17 0 (σ 17 0 - 1)) (m_find σ num) k) 11) (k + 1))) 12 k (((m_sh (su (su σ 0 0 (fnd_c σ num)) 17 0 (σ 17 0 - 1)) (m_find σ num) k) 12) (k + 1))) 13 k (((m_sh (su (su σ 0 0 (fnd_c σ num)) 17 0 (σ 17 0 - 1)) (m_find σ num) k) 13) (k + 1))) 14 k (((m_sh (su (su σ 0 0 (fnd_c σ num)) 17 0 (σ 17 0 - 1)) (m_find σ num) k) 14) (k + 1))) 15 k (((m_sh (su (su σ 0 0 (fnd_c σ num)) 17 0 (σ 17 0 - 1)) (m_find σ num) k) 15) (k + 1))) 16 k (((m_sh (su (su σ 0 0 (fnd_c σ num)) 17 0 (σ 17 0 - 1)) (m_find σ num) k) 16) (k + 1))) := mb_su hB_21 (show (0 : Int) ≤ ((m_sh (su (su σ 0 0 (fnd_c σ num)) 17 0 (σ 17 0 - 1)) (m_find σ num) k) 16) (k + 1) ∧ ((m_sh (su (su σ 0 0 (fnd_c σ num)) 17 0 (σ 17 0 - 1)) (m_find σ num) k) 16) (k + 1) ≤ (19 : Int) from by omega)
            refine v_iinc F (pc := 166) (lo' := [some (.ref (P 0)), some (.int (iI (num))), some (.int (iI (m_find σ num))), some (.int (iI (σ 15 (m_find σ num)))), some (.int (iI (k + 1)))]) dX5_takeOut_166 rfl (Nat.le_of_ble_eq_true rfl) rfl ?_
            refine v_goto F (pc := 169) 45 dX5_takeOut_169 (by decide) ?_
            have hT_ := True.intro
            have ih2 := ih (k + 1) (by omega) (by omega) (by omega)
            rw [← m_sh_s hk0] at ih2
            exact ih2
      have t_ := LP45 _ (m_find σ num) (Int.le_refl _) (by omega) (Nat.lt_succ_self _)
      rw [m_sh_0] at t_
      exact t_
    · have c1 := of_decide_eq_false c_4
      refine v_iconst F (pc := 23) dX5_takeOut_23 ?_
      refine v_iret F (pc := 24) (z := (iI (0))) dX5_takeOut_24 rfl rfl (Nat.le_of_ble_eq_true rfl) (Nat.le_of_ble_eq_true rfl) ?_
      exact ⟨by rw [show tO_a σ num = 0 from if_neg c1], by rw [show tO_s σ num = su σ 0 0 (fnd_c σ num) from if_neg c1]⟩
  refine v_iload_n F (pc := 7) dX5_takeOut_7 rfl ?_
  refine v_iconst F (pc := 8) dX5_takeOut_8 ?_
  refine v_icmp_ne F (pc := 9) (a := m_find σ num) (b := -1) 16 dX5_takeOut_9 (by decide) (by omega) (by omega) (fun c_24 => ?_) (fun c_24 => ?_)
  · refine v_iconst F (pc := 16) dX5_takeOut_16 ?_
    have rc := fnd_c_rng σ num
    exact V.to J_2 rfl rfl (by exact congrArg (fun z => Value.int (iI z) :: [.ref (P 0)]) (show (0 : Int) = fnd_c σ num by simp only [fnd_c]; (repeat' split) <;> first | rfl | omega | (exfalso; omega) | simp_all))
  · refine v_iconst F (pc := 12) dX5_takeOut_12 ?_
    refine v_goto F (pc := 13) 17 dX5_takeOut_13 (by decide) ?_
    have rc := fnd_c_rng σ num
    exact V.to J_2 rfl rfl (by exact congrArg (fun z => Value.int (iI z) :: [.ref (P 0)]) (show (1 : Int) = fnd_c σ num by simp only [fnd_c]; (repeat' split) <;> first | rfl | omega | (exfalso; omega) | simp_all))
-- X5_cord
set_option maxRecDepth 100000 in
set_option maxHeartbeats 8000000 in
theorem k_X5_cord (l : Launch) (g : gT) {P : Nat → Nat} {σ : sT} (hP : mok P) (hB : MB σ) (num c : Int) (hnum : -2147483648 ≤ num ∧ num ≤ 2147483647) (hc : -2147483648 ≤ c ∧ c ≤ 2147483647) (hrk : ∀ k, 0 ≤ k → k < σ 17 0 → 0 ≤ σ 15 k ∧ σ 15 k < 8) : CM l g yX5_cord cX5_cord 7 (some .int) ({ frames := 3, cells := 0, slots := 0, locals := 66 }) [.ref (P 0), .int (iI (num)), .int (iI (c))] (mheap g P σ) (pV (some (.int (iI (cd_a σ num c)))) (mheap g P (cd_s σ num c))) (noX) := by
  refine CM.of (lo := [some (.ref (P 0)), some (.int (iI (num))), some (.int (iI (c))), none, none, none, none]) (by decide) (Nat.le_of_ble_eq_true rfl) (by simp [Value.category]) rfl ?_
  intro pX eX sX mX bX tX cX AX F htab hmn
  have F : Fx pX l sX mX ([.ref (P 0), .int (iI (num)), .int (iI (c))] : List Value).toArray tX cX cX5_cord 7 (some .int) RX5 g AX := F
  have bm : (0 : Int) ≤ σ 17 0 ∧ σ 17 0 ≤ (60 : Int) := mb_nm hB
  have br : (0 : Int) ≤ σ 5 0 ∧ σ 5 0 ≤ (8 : Int) := mb_nr hB
  refine v_aload_n F (pc := 0) dX5_cord_0 rfl ?_
  refine v_iload_n F (pc := 1) dX5_cord_1 rfl ?_
  refine v_callVp F (pc := 2) (As := [.int (iI (num))]) (rest := []) ci_X5_124 ct_X5_find cs_X5_find (k_X5_find l g hP hB num (by omega)) dX5_cord_2 (k0 := 8) rfl rfl (mh_0 hP) rfl rfl (Nat.le_of_ble_eq_true rfl) (Nat.le_of_ble_eq_true rfl) (Nat.le_of_ble_eq_true rfl) (Nat.le_of_ble_eq_true rfl) (Nat.le_of_ble_eq_true rfl) ?_ (fun _ _ z => z.elim)
  have rg_1 := m_find_rng hB num
  refine v_istore_n F (pc := 5) (lo' := [some (.ref (P 0)), some (.int (iI (num))), some (.int (iI (c))), some (.int (iI (m_find σ num))), none, none, none]) dX5_cord_5 (Nat.le_of_ble_eq_true rfl) rfl ?_
  refine v_aload_n F (pc := 6) dX5_cord_6 rfl ?_
  have J_2 : VE pX l eX ({ frames := 3, cells := 0, slots := 0, locals := 66 }) sX mX ([.ref (P 0), .int (iI (num)), .int (iI (c))] : List Value).toArray bX tX cX 7 g AX (mheap g P σ) 0 0 30 [some (.ref (P 0)), some (.int (iI (num))), some (.int (iI (c))), some (.int (iI (m_find σ num))), none, none, none] [.int (iI (cd_c1 σ num c)), .ref (P 0)] (pV (some (.int (iI (cd_a σ num c)))) (mheap g P (cd_s σ num c))) (noX) 0 0 := by
    have rc := cd_c1_rng σ num c
    refine v_callVp F (pc := 30) (As := [.int (iI (cd_c1 σ num c))]) (rest := []) ci_X5_84 ct_X5_isFine cs_X5_isFine (k_X5_isFine l g hP hB (cd_c1 σ num c) (by omega)) dX5_cord_30 (k0 := 8) rfl rfl (mh_0 hP) rfl rfl (Nat.le_of_ble_eq_true rfl) (Nat.le_of_ble_eq_true rfl) (Nat.le_of_ble_eq_true rfl) (Nat.le_of_ble_eq_true rfl) (Nat.le_of_ble_eq_true rfl) ?_ (fun _ _ z => z.elim)
    have hB_3 : MB (su σ 0 0 (cd_c1 σ num c)) := mb_su hB (show (0 : Int) ≤ cd_c1 σ num c ∧ cd_c1 σ num c ≤ (3 : Int) from by omega)
    refine v_if_neB F (pc := 33) (b := (decide (cd_c1 σ num c = 0))) 38 dX5_cord_33 (by decide) (fun c_4 => ?_) (fun c_4 => ?_)
    · have c0 := of_decide_eq_true c_4
      have f0 := cd_c10 hB c0
      have rk9 := hrk _ f0.1.1 f0.1.2
      refine v_aload_n F (pc := 38) dX5_cord_38 rfl ?_
      refine v_getf F (pc := 39) fd_X5_47_8 (v := .ref (P 14)) dX5_cord_39 (mh_0 hP) rfl ?_
      refine v_iload_n F (pc := 42) dX5_cord_42 rfl ?_
      refine v_iald F (pc := 43) (n := 60) (f := σ 14) (z := m_find σ num) dX5_cord_43 (mh_14 hP) (by omega) (by decide) ?_
      have b_5 : (0 : Int) ≤ (σ 14) (m_find σ num) ∧ (σ 14) (m_find σ num) ≤ (2 : Int) := hB_3 14 (m_find σ num) (by omega) (show m_find σ num < (60 : Int) by omega)
      refine v_istore F (pc := 44) (lo' := [some (.ref (P 0)), some (.int (iI (num))), some (.int (iI (c))), some (.int (iI (m_find σ num))), some (.int (iI ((σ 14) (m_find σ num)))), none, none]) dX5_cord_44 (Nat.le_of_ble_eq_true rfl) rfl ?_
      refine v_aload_n F (pc := 46) dX5_cord_46 rfl ?_
      refine v_getf F (pc := 47) fd_X5_47_8 (v := .ref (P 14)) dX5_cord_47 (mh_0 hP) rfl ?_
      refine v_iload_n F (pc := 50) dX5_cord_50 rfl ?_
      refine v_iload_n F (pc := 51) dX5_cord_51 rfl ?_
      refine v_iast F (pc := 52) (n := 60) (f := σ 14) (z := m_find σ num) (x := c) dX5_cord_52 (mh_14 hP) (by omega) (by decide)  (h' := mheap g P (su (su σ 0 0 (cd_c1 σ num c)) 14 (m_find σ num) c)) (mu_14 hP (m_find σ num) c) ?_
      have hB_6 : MB (su (su σ 0 0 (cd_c1 σ num c)) 14 (m_find σ num) c) := mb_su hB_3 (show (0 : Int) ≤ c ∧ c ≤ (2 : Int) from by omega)
      refine v_iconst F (pc := 53) dX5_cord_53 ?_
      refine v_istore F (pc := 54) (lo' := [some (.ref (P 0)), some (.int (iI (num))), some (.int (iI (c))), some (.int (iI (m_find σ num))), some (.int (iI ((σ 14) (m_find σ num)))), some (.int (iI (0))), none]) dX5_cord_54 (Nat.le_of_ble_eq_true rfl) rfl ?_
      refine v_iconst F (pc := 56) dX5_cord_56 ?_
      refine v_istore F (pc := 57) (lo' := [some (.ref (P 0)), some (.int (iI (num))), some (.int (iI (c))), some (.int (iI (m_find σ num))), some (.int (iI ((σ 14) (m_find σ num)))), some (.int (iI (0))), some (.int (iI (0)))]) dX5_cord_57 (Nat.le_of_ble_eq_true rfl) rfl ?_
      refine v_iload F (pc := 59) dX5_cord_59 rfl ?_
      refine v_iconst F (pc := 61) dX5_cord_61 ?_
      refine v_icmp_ge F (pc := 62) (a := 0) (b := 2) 126 dX5_cord_62 (by decide) (by omega) (by omega) (fun c_7 => ?_) (fun c_7 => ?_)
      · exact absurd c_7 (by decide)
      · have J_8 : VE pX l eX ({ frames := 3, cells := 0, slots := 0, locals := 66 }) sX mX ([.ref (P 0), .int (iI (num)), .int (iI (c))] : List Value).toArray bX tX cX 7 g AX (mheap g P (su (su σ 0 0 (cd_c1 σ num c)) 14 (m_find σ num) c)) 0 0 118 [some (.ref (P 0)), some (.int (iI (num))), some (.int (iI (c))), some (.int (iI (m_find σ num))), some (.int (iI ((σ 14) (m_find σ num)))), some (.int (iI (0))), some (.int (iI (0)))] [.int (iI (bI (false || cd_o σ (m_find σ num) c 0)))] (pV (some (.int (iI (cd_a σ num c)))) (mheap g P (cd_s σ num c))) (noX) 0 0 := by
          refine v_istore F (pc := 118) (lo' := [some (.ref (P 0)), some (.int (iI (num))), some (.int (iI (c))), some (.int (iI (m_find σ num))), some (.int (iI ((σ 14) (m_find σ num)))), some (.int (iI (bI (false || cd_o σ (m_find σ num) c 0)))), some (.int (iI (0)))]) dX5_cord_118 (Nat.le_of_ble_eq_true rfl) rfl ?_
          refine v_iinc F (pc := 120) (lo' := [some (.ref (P 0)), some (.int (iI (num))), some (.int (iI (c))), some (.int (iI (m_find σ num))), some (.int (iI ((σ 14) (m_find σ num)))), some (.int (iI (bI (false || cd_o σ (m_find σ num) c 0)))), some (.int (iI (1)))]) dX5_cord_120 rfl (Nat.le_of_ble_eq_true rfl) rfl ?_
          refine v_goto F (pc := 123) 59 dX5_cord_123 (by decide) ?_
          refine v_iload F (pc := 59) dX5_cord_59 rfl ?_
          refine v_iconst F (pc := 61) dX5_cord_61 ?_
          refine v_icmp_ge F (pc := 62) (a := 1) (b := 2) 126 dX5_cord_62 (by decide) (by omega) (by omega) (fun c_9 => ?_) (fun c_9 => ?_)
          · exact absurd c_9 (by decide)
          · have J_10 : VE pX l eX ({ frames := 3, cells := 0, slots := 0, locals := 66 }) sX mX ([.ref (P 0), .int (iI (num)), .int (iI (c))] : List Value).toArray bX tX cX 7 g AX (mheap g P (su (su σ 0 0 (cd_c1 σ num c)) 14 (m_find σ num) c)) 0 0 118 [some (.ref (P 0)), some (.int (iI (num))), some (.int (iI (c))), some (.int (iI (m_find σ num))), some (.int (iI ((σ 14) (m_find σ num)))), some (.int (iI (bI (false || cd_o σ (m_find σ num) c 0)))), some (.int (iI (1)))] [.int (iI (bI ((false || cd_o σ (m_find σ num) c 0) || cd_o σ (m_find σ num) c 1)))] (pV (some (.int (iI (cd_a σ num c)))) (mheap g P (cd_s σ num c))) (noX) 0 0 := by
              refine v_istore F (pc := 118) (lo' := [some (.ref (P 0)), some (.int (iI (num))), some (.int (iI (c))), some (.int (iI (m_find σ num))), some (.int (iI ((σ 14) (m_find σ num)))), some (.int (iI (bI ((false || cd_o σ (m_find σ num) c 0) || cd_o σ (m_find σ num) c 1)))), some (.int (iI (1)))]) dX5_cord_118 (Nat.le_of_ble_eq_true rfl) rfl ?_
              refine v_iinc F (pc := 120) (lo' := [some (.ref (P 0)), some (.int (iI (num))), some (.int (iI (c))), some (.int (iI (m_find σ num))), some (.int (iI ((σ 14) (m_find σ num)))), some (.int (iI (bI ((false || cd_o σ (m_find σ num) c 0) || cd_o σ (m_find σ num) c 1)))), some (.int (iI (2)))]) dX5_cord_120 rfl (Nat.le_of_ble_eq_true rfl) rfl ?_
              refine v_goto F (pc := 123) 59 dX5_cord_123 (by decide) ?_
              refine v_iload F (pc := 59) dX5_cord_59 rfl ?_
              refine v_iconst F (pc := 61) dX5_cord_61 ?_
              refine v_icmp_ge F (pc := 62) (a := 2) (b := 2) 126 dX5_cord_62 (by decide) (by omega) (by omega) (fun c_11 => ?_) (fun c_11 => ?_)
              · refine v_aload_n F (pc := 126) dX5_cord_126 rfl ?_
                have J_12 : VE pX l eX ({ frames := 3, cells := 0, slots := 0, locals := 66 }) sX mX ([.ref (P 0), .int (iI (num)), .int (iI (c))] : List Value).toArray bX tX cX 7 g AX (mheap g P (su (su σ 0 0 (cd_c1 σ num c)) 14 (m_find σ num) c)) 0 0 137 [some (.ref (P 0)), some (.int (iI (num))), some (.int (iI (c))), some (.int (iI (m_find σ num))), some (.int (iI ((σ 14) (m_find σ num)))), some (.int (iI (bI ((false || cd_o σ (m_find σ num) c 0) || cd_o σ (m_find σ num) c 1)))), some (.int (iI (2)))] [.int (iI ((if cd_ov σ num c = true then 3 else 0))), .ref (P 0)] (pV (some (.int (iI (cd_a σ num c)))) (mheap g P (cd_s σ num c))) (noX) 0 0 := by
                  have ro : (0 : Int) ≤ (if cd_ov σ num c = true then 3 else 0) ∧ (if cd_ov σ num c = true then (3 : Int) else 0) ≤ 3 := by split <;> omega
                  refine v_callVp F (pc := 137) (As := [.int (iI ((if cd_ov σ num c = true then 3 else 0)))]) (rest := []) ci_X5_84 ct_X5_isFine cs_X5_isFine (k_X5_isFine l g hP hB_6 (if cd_ov σ num c = true then 3 else 0) (by omega)) dX5_cord_137 (k0 := 8) rfl rfl (mh_0 hP) rfl rfl (Nat.le_of_ble_eq_true rfl) (Nat.le_of_ble_eq_true rfl) (Nat.le_of_ble_eq_true rfl) (Nat.le_of_ble_eq_true rfl) (Nat.le_of_ble_eq_true rfl) ?_ (fun _ _ z => z.elim)
                  have hB_13 : MB (su (su (su σ 0 0 (cd_c1 σ num c)) 14 (m_find σ num) c) 0 0 (if cd_ov σ num c = true then 3 else 0)) := mb_su hB_6 (show (0 : Int) ≤ (if cd_ov σ num c = true then 3 else 0) ∧ (if cd_ov σ num c = true then 3 else 0) ≤ (3 : Int) from by omega)
                  refine v_if_neB F (pc := 140) (b := (decide ((if cd_ov σ num c = true then 3 else 0) = 0))) 153 dX5_cord_140 (by decide) (fun c_14 => ?_) (fun c_14 => ?_)
                  · have o0 : ¬ cd_ov σ num c = true := fun q => by rw [if_pos q] at c_14; cases c_14
                    refine v_iload F (pc := 153) dX5_cord_153 rfl ?_
                    refine v_iret F (pc := 155) (z := (iI ((σ 14) (m_find σ num)))) dX5_cord_155 rfl rfl (Nat.le_of_ble_eq_true rfl) (Nat.le_of_ble_eq_true rfl) ?_
                    exact ⟨by rw [show cd_a σ num c = σ 14 (m_find σ num) from if_pos (by unfold cd_c; rw [if_pos c0, if_neg o0])], by rw [show cd_s σ num c = su (su (su σ 0 0 (cd_c1 σ num c)) 14 (m_find σ num) c) 0 0 0 from by unfold cd_s; rw [if_pos c0, if_neg o0], if_neg o0]⟩
                  · have o1 : cd_ov σ num c = true := Decidable.byContradiction (fun q => by rw [if_neg q] at c_14; cases c_14)
                    refine v_aload_n F (pc := 143) dX5_cord_143 rfl ?_
                    refine v_getf F (pc := 144) fd_X5_47_8 (v := .ref (P 14)) dX5_cord_144 (mh_0 hP) rfl ?_
                    refine v_iload_n F (pc := 147) dX5_cord_147 rfl ?_
                    refine v_iload F (pc := 148) dX5_cord_148 rfl ?_
                    refine v_iast F (pc := 150) (n := 60) (f := iup (σ 14) (m_find σ num) c) (z := m_find σ num) (x := (σ 14) (m_find σ num)) dX5_cord_150 (mh_14 hP) (by omega) (by decide)  (h' := mheap g P (su (su (su (su σ 0 0 (cd_c1 σ num c)) 14 (m_find σ num) c) 0 0 (if cd_ov σ num c = true then 3 else 0)) 14 (m_find σ num) ((σ 14) (m_find σ num)))) (mu_14 hP (m_find σ num) ((σ 14) (m_find σ num))) ?_
                    have hB_15 : MB (su (su (su (su σ 0 0 (cd_c1 σ num c)) 14 (m_find σ num) c) 0 0 (if cd_ov σ num c = true then 3 else 0)) 14 (m_find σ num) ((σ 14) (m_find σ num))) := mb_su hB_13 (show (0 : Int) ≤ (σ 14) (m_find σ num) ∧ (σ 14) (m_find σ num) ≤ (2 : Int) from by omega)
                    refine v_iconst F (pc := 151) dX5_cord_151 ?_
                    refine v_iret F (pc := 152) (z := (iI (0))) dX5_cord_152 rfl rfl (Nat.le_of_ble_eq_true rfl) (Nat.le_of_ble_eq_true rfl) ?_
                    exact ⟨by rw [show cd_a σ num c = 0 from if_neg (by unfold cd_c; rw [if_pos c0, if_pos o1]; decide)], by rw [show cd_s σ num c = su (su (su (su σ 0 0 (cd_c1 σ num c)) 14 (m_find σ num) c) 0 0 3) 14 (m_find σ num) (σ 14 (m_find σ num)) from by unfold cd_s; rw [if_pos c0, if_pos o1], if_pos o1]⟩
                refine v_iload F (pc := 127) dX5_cord_127 rfl ?_
                refine v_if_eqB F (pc := 129) (b := ((false || cd_o σ (m_find σ num) c 0) || cd_o σ (m_find σ num) c 1)) 136 dX5_cord_129 (by decide) (fun c_16 => ?_) (fun c_16 => ?_)
                · refine v_iconst F (pc := 136) dX5_cord_136 ?_
                  have ro : (0 : Int) ≤ (if cd_ov σ num c = true then 3 else 0) ∧ (if cd_ov σ num c = true then (3 : Int) else 0) ≤ 3 := by split <;> omega
                  exact V.to J_12 rfl rfl (by simp_all [cd_ov])
                · refine v_iconst F (pc := 132) dX5_cord_132 ?_
                  refine v_goto F (pc := 133) 137 dX5_cord_133 (by decide) ?_
                  have ro : (0 : Int) ≤ (if cd_ov σ num c = true then 3 else 0) ∧ (if cd_ov σ num c = true then (3 : Int) else 0) ≤ 3 := by split <;> omega
                  exact V.to J_12 rfl rfl (by simp_all [cd_ov])
              · exact absurd c_11 (by decide)
            refine v_iload F (pc := 65) dX5_cord_65 rfl ?_
            refine v_if_neB F (pc := 67) (b := (false || cd_o σ (m_find σ num) c 0)) 113 dX5_cord_67 (by decide) (fun c_17 => ?_) (fun c_17 => ?_)
            · refine v_iconst F (pc := 113) dX5_cord_113 ?_
              refine v_goto F (pc := 114) 118 dX5_cord_114 (by decide) ?_
              exact V.to J_10 rfl rfl (by exact congrArg (fun z => [Value.int (iI z)]) (by first | exact co_t2 (by assumption) | exact co_t3 (by assumption) | exact co_f (by first | rfl | assumption) (by assumption) (by assumption) | exact co_t1 (by assumption)))
            · refine v_aload_n F (pc := 70) dX5_cord_70 rfl ?_
              refine v_aload_n F (pc := 71) dX5_cord_71 rfl ?_
              refine v_getf F (pc := 72) fd_X5_50_8 (v := .ref (P 15)) dX5_cord_72 (mh_0 hP) rfl ?_
              refine v_iload_n F (pc := 75) dX5_cord_75 rfl ?_
              refine v_iald F (pc := 76) (n := 60) (f := σ 15) (z := m_find σ num) dX5_cord_76 (mh_15 hP) (by omega) (by decide) ?_
              have b_18 : (-1 : Int) ≤ (σ 15) (m_find σ num) ∧ (σ 15) (m_find σ num) ≤ (7 : Int) := hB_6 15 (m_find σ num) (by omega) (show m_find σ num < (60 : Int) by omega)
              refine v_iload F (pc := 77) dX5_cord_77 rfl ?_
              refine v_callVp F (pc := 79) (As := [.int (iI ((σ 15) (m_find σ num))), .int (iI (1))]) (rest := []) ci_X5_94 ct_X5_worst cs_X5_worst (k_X5_worst l g hP hB_6 ((σ 15) (m_find σ num)) 1 (by omega) (by omega)) dX5_cord_79 (k0 := 8) rfl rfl (mh_0 hP) rfl rfl (Nat.le_of_ble_eq_true rfl) (Nat.le_of_ble_eq_true rfl) (Nat.le_of_ble_eq_true rfl) (Nat.le_of_ble_eq_true rfl) (Nat.le_of_ble_eq_true rfl) ?_ (fun _ _ z => z.elim)
              have rg_19 : 0 ≤ m_worst (su σ 14 (m_find σ num) c) ((σ 15) (m_find σ num)) 1 ∧ m_worst (su σ 14 (m_find σ num) c) ((σ 15) (m_find σ num)) 1 ≤ 120000 := m_worst_rng hB_6 ((σ 15) (m_find σ num)) 1
              refine v_aload_n F (pc := 82) dX5_cord_82 rfl ?_
              refine v_getf F (pc := 83) fd_X5_19_8 (v := .ref (P 4)) dX5_cord_83 (mh_0 hP) rfl ?_
              refine v_aload_n F (pc := 86) dX5_cord_86 rfl ?_
              refine v_getf F (pc := 87) fd_X5_50_8 (v := .ref (P 15)) dX5_cord_87 (mh_0 hP) rfl ?_
              refine v_iload_n F (pc := 90) dX5_cord_90 rfl ?_
              refine v_iald F (pc := 91) (n := 60) (f := σ 15) (z := m_find σ num) dX5_cord_91 (mh_15 hP) (by omega) (by decide) ?_
              have b_20 : (-1 : Int) ≤ (σ 15) (m_find σ num) ∧ (σ 15) (m_find σ num) ≤ (7 : Int) := hB_6 15 (m_find σ num) (by omega) (show m_find σ num < (60 : Int) by omega)
              refine v_iald F (pc := 92) (n := 8) (f := σ 4) (z := (σ 15) (m_find σ num)) dX5_cord_92 (mh_4 hP) (by omega) (by decide) ?_
              have b_21 : (0 : Int) ≤ (σ 4) ((σ 15) (m_find σ num)) ∧ (σ 4) ((σ 15) (m_find σ num)) ≤ (10000 : Int) := hB_6 4 ((σ 15) (m_find σ num)) (by omega) (show (σ 15) (m_find σ num) < (8 : Int) by omega)
              refine v_icmp_gt F (pc := 93) (a := m_worst (su σ 14 (m_find σ num) c) ((σ 15) (m_find σ num)) 1) (b := (σ 4) ((σ 15) (m_find σ num))) 113 dX5_cord_93 (by decide) (by omega) (by omega) (fun c_22 => ?_) (fun c_22 => ?_)
              · refine v_iconst F (pc := 113) dX5_cord_113 ?_
                refine v_goto F (pc := 114) 118 dX5_cord_114 (by decide) ?_
                exact V.to J_10 rfl rfl (by exact congrArg (fun z => [Value.int (iI z)]) (by first | exact co_t2 (by assumption) | exact co_t3 (by assumption) | exact co_f (by first | rfl | assumption) (by assumption) (by assumption) | exact co_t1 (by assumption)))
              · refine v_aload_n F (pc := 96) dX5_cord_96 rfl ?_
                refine v_iconst F (pc := 97) dX5_cord_97 ?_
                refine v_iload F (pc := 98) dX5_cord_98 rfl ?_
                refine v_callVp F (pc := 100) (As := [.int (iI (-1)), .int (iI (1))]) (rest := []) ci_X5_94 ct_X5_worst cs_X5_worst (k_X5_worst l g hP hB_6 (-1) 1 (by omega) (by omega)) dX5_cord_100 (k0 := 8) rfl rfl (mh_0 hP) rfl rfl (Nat.le_of_ble_eq_true rfl) (Nat.le_of_ble_eq_true rfl) (Nat.le_of_ble_eq_true rfl) (Nat.le_of_ble_eq_true rfl) (Nat.le_of_ble_eq_true rfl) ?_ (fun _ _ z => z.elim)
                have rg_23 : 0 ≤ m_worst (su σ 14 (m_find σ num) c) (-1) 1 ∧ m_worst (su σ 14 (m_find σ num) c) (-1) 1 ≤ 120000 := m_worst_rng hB_6 (-1) 1
                refine v_aload_n F (pc := 103) dX5_cord_103 rfl ?_
                refine v_getf F (pc := 104) fd_X5_28_8 (v := .ref (P 8)) dX5_cord_104 (mh_0 hP) rfl ?_
                refine v_iload F (pc := 107) dX5_cord_107 rfl ?_
                refine v_iald F (pc := 109) (n := 2) (f := σ 8) (z := 1) dX5_cord_109 (mh_8 hP) (by omega) (by decide) ?_
                have b_24 : (0 : Int) ≤ (σ 8) 1 ∧ (σ 8) 1 ≤ (20000 : Int) := hB_6 8 1 (by omega) (show 1 < (2 : Int) by omega)
                refine v_icmp_le F (pc := 110) (a := m_worst (su σ 14 (m_find σ num) c) (-1) 1) (b := (σ 8) 1) 117 dX5_cord_110 (by decide) (by omega) (by omega) (fun c_25 => ?_) (fun c_25 => ?_)
                · refine v_iconst F (pc := 117) dX5_cord_117 ?_
                  exact V.to J_10 rfl rfl (by exact congrArg (fun z => [Value.int (iI z)]) (by first | exact co_t2 (by assumption) | exact co_t3 (by assumption) | exact co_f (by first | rfl | assumption) (by assumption) (by assumption) | exact co_t1 (by assumption)))
                · refine v_iconst F (pc := 113) dX5_cord_113 ?_
                  refine v_goto F (pc := 114) 118 dX5_cord_114 (by decide) ?_
                  exact V.to J_10 rfl rfl (by exact congrArg (fun z => [Value.int (iI z)]) (by first | exact co_t2 (by assumption) | exact co_t3 (by assumption) | exact co_f (by first | rfl | assumption) (by assumption) (by assumption) | exact co_t1 (by assumption)))
        refine v_iload F (pc := 65) dX5_cord_65 rfl ?_
        refine v_if_ne F (pc := 67) (a := 0) 113 dX5_cord_67 (by decide) (by omega) (fun c_26 => ?_) (fun c_26 => ?_)
        · exact absurd c_26 (by decide)
        · refine v_aload_n F (pc := 70) dX5_cord_70 rfl ?_
          refine v_aload_n F (pc := 71) dX5_cord_71 rfl ?_
          refine v_getf F (pc := 72) fd_X5_50_8 (v := .ref (P 15)) dX5_cord_72 (mh_0 hP) rfl ?_
          refine v_iload_n F (pc := 75) dX5_cord_75 rfl ?_
          refine v_iald F (pc := 76) (n := 60) (f := σ 15) (z := m_find σ num) dX5_cord_76 (mh_15 hP) (by omega) (by decide) ?_
          have b_27 : (-1 : Int) ≤ (σ 15) (m_find σ num) ∧ (σ 15) (m_find σ num) ≤ (7 : Int) := hB_6 15 (m_find σ num) (by omega) (show m_find σ num < (60 : Int) by omega)
          refine v_iload F (pc := 77) dX5_cord_77 rfl ?_
          refine v_callVp F (pc := 79) (As := [.int (iI ((σ 15) (m_find σ num))), .int (iI (0))]) (rest := []) ci_X5_94 ct_X5_worst cs_X5_worst (k_X5_worst l g hP hB_6 ((σ 15) (m_find σ num)) 0 (by omega) (by omega)) dX5_cord_79 (k0 := 8) rfl rfl (mh_0 hP) rfl rfl (Nat.le_of_ble_eq_true rfl) (Nat.le_of_ble_eq_true rfl) (Nat.le_of_ble_eq_true rfl) (Nat.le_of_ble_eq_true rfl) (Nat.le_of_ble_eq_true rfl) ?_ (fun _ _ z => z.elim)
          have rg_28 : 0 ≤ m_worst (su σ 14 (m_find σ num) c) ((σ 15) (m_find σ num)) 0 ∧ m_worst (su σ 14 (m_find σ num) c) ((σ 15) (m_find σ num)) 0 ≤ 120000 := m_worst_rng hB_6 ((σ 15) (m_find σ num)) 0
          refine v_aload_n F (pc := 82) dX5_cord_82 rfl ?_
          refine v_getf F (pc := 83) fd_X5_19_8 (v := .ref (P 4)) dX5_cord_83 (mh_0 hP) rfl ?_
          refine v_aload_n F (pc := 86) dX5_cord_86 rfl ?_
          refine v_getf F (pc := 87) fd_X5_50_8 (v := .ref (P 15)) dX5_cord_87 (mh_0 hP) rfl ?_
          refine v_iload_n F (pc := 90) dX5_cord_90 rfl ?_
          refine v_iald F (pc := 91) (n := 60) (f := σ 15) (z := m_find σ num) dX5_cord_91 (mh_15 hP) (by omega) (by decide) ?_
          have b_29 : (-1 : Int) ≤ (σ 15) (m_find σ num) ∧ (σ 15) (m_find σ num) ≤ (7 : Int) := hB_6 15 (m_find σ num) (by omega) (show m_find σ num < (60 : Int) by omega)
          refine v_iald F (pc := 92) (n := 8) (f := σ 4) (z := (σ 15) (m_find σ num)) dX5_cord_92 (mh_4 hP) (by omega) (by decide) ?_
          have b_30 : (0 : Int) ≤ (σ 4) ((σ 15) (m_find σ num)) ∧ (σ 4) ((σ 15) (m_find σ num)) ≤ (10000 : Int) := hB_6 4 ((σ 15) (m_find σ num)) (by omega) (show (σ 15) (m_find σ num) < (8 : Int) by omega)
          refine v_icmp_gt F (pc := 93) (a := m_worst (su σ 14 (m_find σ num) c) ((σ 15) (m_find σ num)) 0) (b := (σ 4) ((σ 15) (m_find σ num))) 113 dX5_cord_93 (by decide) (by omega) (by omega) (fun c_31 => ?_) (fun c_31 => ?_)
          · refine v_iconst F (pc := 113) dX5_cord_113 ?_
            refine v_goto F (pc := 114) 118 dX5_cord_114 (by decide) ?_
            exact V.to J_8 rfl rfl (by exact congrArg (fun z => [Value.int (iI z)]) (by first | exact co_t2 (by assumption) | exact co_t3 (by assumption) | exact co_f (by first | rfl | assumption) (by assumption) (by assumption) | exact co_t1 (by assumption)))
          · refine v_aload_n F (pc := 96) dX5_cord_96 rfl ?_
            refine v_iconst F (pc := 97) dX5_cord_97 ?_
            refine v_iload F (pc := 98) dX5_cord_98 rfl ?_
            refine v_callVp F (pc := 100) (As := [.int (iI (-1)), .int (iI (0))]) (rest := []) ci_X5_94 ct_X5_worst cs_X5_worst (k_X5_worst l g hP hB_6 (-1) 0 (by omega) (by omega)) dX5_cord_100 (k0 := 8) rfl rfl (mh_0 hP) rfl rfl (Nat.le_of_ble_eq_true rfl) (Nat.le_of_ble_eq_true rfl) (Nat.le_of_ble_eq_true rfl) (Nat.le_of_ble_eq_true rfl) (Nat.le_of_ble_eq_true rfl) ?_ (fun _ _ z => z.elim)
            have rg_32 : 0 ≤ m_worst (su σ 14 (m_find σ num) c) (-1) 0 ∧ m_worst (su σ 14 (m_find σ num) c) (-1) 0 ≤ 120000 := m_worst_rng hB_6 (-1) 0
            refine v_aload_n F (pc := 103) dX5_cord_103 rfl ?_
            refine v_getf F (pc := 104) fd_X5_28_8 (v := .ref (P 8)) dX5_cord_104 (mh_0 hP) rfl ?_
            refine v_iload F (pc := 107) dX5_cord_107 rfl ?_
            refine v_iald F (pc := 109) (n := 2) (f := σ 8) (z := 0) dX5_cord_109 (mh_8 hP) (by omega) (by decide) ?_
            have b_33 : (0 : Int) ≤ (σ 8) 0 ∧ (σ 8) 0 ≤ (20000 : Int) := hB_6 8 0 (by decide) (by decide)
            refine v_icmp_le F (pc := 110) (a := m_worst (su σ 14 (m_find σ num) c) (-1) 0) (b := (σ 8) 0) 117 dX5_cord_110 (by decide) (by omega) (by omega) (fun c_34 => ?_) (fun c_34 => ?_)
            · refine v_iconst F (pc := 117) dX5_cord_117 ?_
              exact V.to J_8 rfl rfl (by exact congrArg (fun z => [Value.int (iI z)]) (by first | exact co_t2 (by assumption) | exact co_t3 (by assumption) | exact co_f (by first | rfl | assumption) (by assumption) (by assumption) | exact co_t1 (by assumption)))
            · refine v_iconst F (pc := 113) dX5_cord_113 ?_
              refine v_goto F (pc := 114) 118 dX5_cord_114 (by decide) ?_
              exact V.to J_8 rfl rfl (by exact congrArg (fun z => [Value.int (iI z)]) (by first | exact co_t2 (by assumption) | exact co_t3 (by assumption) | exact co_f (by first | rfl | assumption) (by assumption) (by assumption) | exact co_t1 (by assumption)))
    · have c1 := of_decide_eq_false c_4
      refine v_iconst F (pc := 36) dX5_cord_36 ?_
      refine v_iret F (pc := 37) (z := (iI (0))) dX5_cord_37 rfl rfl (Nat.le_of_ble_eq_true rfl) (Nat.le_of_ble_eq_true rfl) ?_
      exact ⟨by rw [show cd_a σ num c = 0 from if_neg (by unfold cd_c; rw [if_neg c1]; exact c1)], by rw [show cd_s σ num c = su σ 0 0 (cd_c1 σ num c) from if_neg c1]⟩
  refine v_iload_n F (pc := 7) dX5_cord_7 rfl ?_
  refine v_iconst F (pc := 8) dX5_cord_8 ?_
  refine v_icmp_ne F (pc := 9) (a := m_find σ num) (b := -1) 16 dX5_cord_9 (by decide) (by omega) (by omega) (fun c_35 => ?_) (fun c_35 => ?_)
  · refine v_iload_n F (pc := 16) dX5_cord_16 rfl ?_
    refine v_iconst F (pc := 17) dX5_cord_17 ?_
    refine v_iconst F (pc := 18) dX5_cord_18 ?_
    refine v_callSp F (pc := 19) (As := [.int (iI (c)), .int (iI (0)), .int (iI (2))]) (rest := [.ref (P 0)]) ci_X5_69 ct_X5_isIn (k_X5_isIn l g c 0 2 (by omega) (by omega) (by omega)) dX5_cord_19 rfl rfl (Nat.le_of_ble_eq_true rfl) (Nat.le_of_ble_eq_true rfl) (Nat.le_of_ble_eq_true rfl) (Nat.le_of_ble_eq_true rfl) (Nat.le_of_ble_eq_true rfl) ?_ (fun _ _ z => z.elim)
    refine v_if_neB F (pc := 22) (b := (inn c 0 2)) 29 dX5_cord_22 (by decide) (fun c_36 => ?_) (fun c_36 => ?_)
    · refine v_iconst F (pc := 29) dX5_cord_29 ?_
      have rc := cd_c1_rng σ num c
      exact V.to J_2 rfl rfl (by exact congrArg (fun z => Value.int (iI z) :: [.ref (P 0)]) (show (0 : Int) = cd_c1 σ num c by simp only [cd_c1]; (repeat' split) <;> first | rfl | omega | (exfalso; omega) | simp_all))
    · refine v_iconst F (pc := 25) dX5_cord_25 ?_
      refine v_goto F (pc := 26) 30 dX5_cord_26 (by decide) ?_
      have rc := cd_c1_rng σ num c
      exact V.to J_2 rfl rfl (by exact congrArg (fun z => Value.int (iI z) :: [.ref (P 0)]) (show (2 : Int) = cd_c1 σ num c by simp only [cd_c1]; (repeat' split) <;> first | rfl | omega | (exfalso; omega) | simp_all))
  · refine v_iconst F (pc := 12) dX5_cord_12 ?_
    refine v_goto F (pc := 13) 30 dX5_cord_13 (by decide) ?_
    have rc := cd_c1_rng σ num c
    exact V.to J_2 rfl rfl (by exact congrArg (fun z => Value.int (iI z) :: [.ref (P 0)]) (show (1 : Int) = cd_c1 σ num c by simp only [cd_c1]; (repeat' split) <;> first | rfl | omega | (exfalso; omega) | simp_all))
