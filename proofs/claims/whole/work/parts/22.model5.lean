-- X5_next
set_option maxRecDepth 100000 in
set_option maxHeartbeats 8000000 in
theorem k_X5_next (l : Launch) (g : gT) {P : Nat → Nat} {σ : sT} (hP : mok P) (hB : MB σ) (num : Int) (hnum : -2147483648 ≤ num ∧ num ≤ 2147483647) : CM l g yX5_next cX5_next 6 (some .int) ({ frames := 2, cells := 0, slots := 0, locals := 42 }) [.ref (P 0), .int (iI (num))] (mheap g P σ) (pV (some (.int (iI (nx_a σ num)))) (mheap g P (su σ 0 0 (nx_c σ num)))) (noX) := by
  refine CM.of (lo := [some (.ref (P 0)), some (.int (iI (num))), none, none, none, none]) (by decide) (Nat.le_of_ble_eq_true rfl) (by simp [Value.category]) rfl ?_
  intro pX eX sX mX bX tX cX AX F htab hmn
  have F : Fx pX l sX mX ([.ref (P 0), .int (iI (num))] : List Value).toArray tX cX cX5_next 6 (some .int) RX5 g AX := F
  have bm : (0 : Int) ≤ σ 17 0 ∧ σ 17 0 ≤ (60 : Int) := mb_nm hB
  have br : (0 : Int) ≤ σ 5 0 ∧ σ 5 0 ≤ (8 : Int) := mb_nr hB
  have J_1 : VE pX l eX ({ frames := 2, cells := 0, slots := 0, locals := 42 }) sX mX ([.ref (P 0), .int (iI (num))] : List Value).toArray bX tX cX 6 g AX (mheap g P σ) 0 0 14 [some (.ref (P 0)), some (.int (iI (num))), none, none, none, none] [.int (iI (nx_at σ num))] (pV (some (.int (iI (nx_a σ num)))) (mheap g P (su σ 0 0 (nx_c σ num)))) (noX) 0 0 := by
    have ra := nx_at_rng hB num
    refine v_istore_n F (pc := 14) (lo' := [some (.ref (P 0)), some (.int (iI (num))), some (.int (iI (nx_at σ num))), none, none, none]) dX5_next_14 (Nat.le_of_ble_eq_true rfl) rfl ?_
    refine v_aload_n F (pc := 15) dX5_next_15 rfl ?_
    have J_2 : VE pX l eX ({ frames := 2, cells := 0, slots := 0, locals := 42 }) sX mX ([.ref (P 0), .int (iI (num))] : List Value).toArray bX tX cX 6 g AX (mheap g P σ) 0 0 31 [some (.ref (P 0)), some (.int (iI (num))), some (.int (iI (nx_at σ num))), none, none, none] [.int (iI (nx_c σ num)), .ref (P 0)] (pV (some (.int (iI (nx_a σ num)))) (mheap g P (su σ 0 0 (nx_c σ num)))) (noX) 0 0 := by
      have rc := nx_c_rng σ num
      refine v_callVp F (pc := 31) (As := [.int (iI (nx_c σ num))]) (rest := []) ci_X5_84 ct_X5_isFine cs_X5_isFine (k_X5_isFine l g hP hB (nx_c σ num) (by omega)) dX5_next_31 (k0 := 8) rfl rfl (mh_0 hP) rfl rfl (Nat.le_of_ble_eq_true rfl) (Nat.le_of_ble_eq_true rfl) (Nat.le_of_ble_eq_true rfl) (Nat.le_of_ble_eq_true rfl) (Nat.le_of_ble_eq_true rfl) ?_ (fun _ _ z => z.elim)
      have hB_3 : MB (su σ 0 0 (nx_c σ num)) := mb_su hB (show (0 : Int) ≤ nx_c σ num ∧ nx_c σ num ≤ (3 : Int) from by omega)
      refine v_if_neB F (pc := 34) (b := (decide (nx_c σ num = 0))) 39 dX5_next_34 (by decide) (fun c_4 => ?_) (fun c_4 => ?_)
      · have c0 := of_decide_eq_true c_4
        have f0 := nx_c0 c0
        have J_5 : VE pX l eX ({ frames := 2, cells := 0, slots := 0, locals := 42 }) sX mX ([.ref (P 0), .int (iI (num))] : List Value).toArray bX tX cX 6 g AX (mheap g P (su σ 0 0 (nx_c σ num))) 0 0 53 [some (.ref (P 0)), some (.int (iI (num))), some (.int (iI (nx_at σ num))), none, none, none] [.int (iI (nx_b σ num))] (pV (some (.int (iI (nx_a σ num)))) (mheap g P (su σ 0 0 (nx_c σ num)))) (noX) 0 0 := by
          have rb := nx_b_rng hB num
          refine v_istore_n F (pc := 53) (lo' := [some (.ref (P 0)), some (.int (iI (num))), some (.int (iI (nx_at σ num))), some (.int (iI (nx_b σ num))), none, none]) dX5_next_53 (Nat.le_of_ble_eq_true rfl) rfl ?_
          refine v_iconst F (pc := 54) dX5_next_54 ?_
          refine v_istore F (pc := 55) (lo' := [some (.ref (P 0)), some (.int (iI (num))), some (.int (iI (nx_at σ num))), some (.int (iI (nx_b σ num))), some (.int (iI (-1))), none]) dX5_next_55 (Nat.le_of_ble_eq_true rfl) rfl ?_
          refine v_iconst F (pc := 57) dX5_next_57 ?_
          refine v_istore F (pc := 58) (lo' := [some (.ref (P 0)), some (.int (iI (num))), some (.int (iI (nx_at σ num))), some (.int (iI (nx_b σ num))), some (.int (iI (-1))), some (.int (iI (0)))]) dX5_next_58 (Nat.le_of_ble_eq_true rfl) rfl ?_
          have LP60 : ∀ (N_ : Nat) (k : Int), (0 ≤ k) → (k ≤ (σ 17 0)) → ((σ 17 0) - k).toNat < N_ → VE pX l eX ({ frames := 2, cells := 0, slots := 0, locals := 42 }) sX mX ([.ref (P 0), .int (iI (num))] : List Value).toArray bX tX cX 6 g AX (mheap g P (su σ 0 0 (nx_c σ num))) 0 0 60 [some (.ref (P 0)), some (.int (iI (num))), some (.int (iI (nx_at σ num))), some (.int (iI (nx_b σ num))), some (.int (iI (m_nb σ (nx_b σ num) k))), some (.int (iI (k)))] [] (pV (some (.int (iI (nx_a σ num)))) (mheap g P (su σ 0 0 (nx_c σ num)))) (noX) 0 0 := by
            intro N_
            induction N_ with
            | zero => intro k _ _ hm_; exact absurd hm_ (Nat.not_lt_zero _)
            | succ N_ ih =>
              intro k hk0 hk1 hm_
              have rk := m_nb_rng σ (nx_b σ num) hk0
              refine v_iload F (pc := 60) dX5_next_60 rfl ?_
              refine v_aload_n F (pc := 62) dX5_next_62 rfl ?_
              refine v_getf F (pc := 63) fd_X5_73_8 (v := .int (iI (σ 17 0))) dX5_next_63 (mh_0 hP) rfl ?_
              have b_6 : (0 : Int) ≤ σ 17 0 ∧ σ 17 0 ≤ (60 : Int) := hB 17 0 (by decide) (by decide)
              refine v_icmp_ge F (pc := 66) (a := k) (b := σ 17 0) 115 dX5_next_66 (by decide) (by omega) (by omega) (fun c_7 => ?_) (fun c_7 => ?_)
              · refine v_iload F (pc := 115) dX5_next_115 rfl ?_
                refine v_iconst F (pc := 117) dX5_next_117 ?_
                refine v_icmp_ne F (pc := 118) (a := m_nb σ (nx_b σ num) k) (b := -1) 125 dX5_next_118 (by decide) (by omega) (by omega) (fun c_8 => ?_) (fun c_8 => ?_)
                · refine v_aload_n F (pc := 125) dX5_next_125 rfl ?_
                  refine v_getf F (pc := 126) fd_X5_35_8 (v := .ref (P 10)) dX5_next_126 (mh_0 hP) rfl ?_
                  refine v_iload F (pc := 129) dX5_next_129 rfl ?_
                  refine v_iald F (pc := 131) (n := 60) (f := σ 10) (z := m_nb σ (nx_b σ num) k) dX5_next_131 (mh_10 hP) (by omega) (by decide) ?_
                  have b_9 : (0 : Int) ≤ (σ 10) (m_nb σ (nx_b σ num) k) ∧ (σ 10) (m_nb σ (nx_b σ num) k) ≤ (1000000 : Int) := hB 10 (m_nb σ (nx_b σ num) k) (by omega) (show m_nb σ (nx_b σ num) k < (60 : Int) by omega)
                  refine v_iret F (pc := 132) (z := (iI ((σ 10) (m_nb σ (nx_b σ num) k)))) dX5_next_132 rfl rfl (Nat.le_of_ble_eq_true rfl) (Nat.le_of_ble_eq_true rfl) ?_
                  have ek : k = σ 17 0 := by omega
                  have e9 : nx_a σ num = (σ 10) (m_nb σ (nx_b σ num) k) := by rw [show nx_a σ num = (if m_nb σ (nx_b σ num) (σ 17 0) = -1 then -1 else σ 10 (m_nb σ (nx_b σ num) (σ 17 0))) from if_pos c0, ← ek]; split <;> first | rfl | omega
                  exact ⟨by rw [e9], rfl⟩
                · refine v_iconst F (pc := 121) dX5_next_121 ?_
                  refine v_goto F (pc := 122) 132 dX5_next_122 (by decide) ?_
                  refine v_iret F (pc := 132) (z := (iI (-1))) dX5_next_132 rfl rfl (Nat.le_of_ble_eq_true rfl) (Nat.le_of_ble_eq_true rfl) ?_
                  have ek : k = σ 17 0 := by omega
                  have e9 : nx_a σ num = -1 := by rw [show nx_a σ num = (if m_nb σ (nx_b σ num) (σ 17 0) = -1 then -1 else σ 10 (m_nb σ (nx_b σ num) (σ 17 0))) from if_pos c0, ← ek]; split <;> first | rfl | omega
                  exact ⟨by rw [e9], rfl⟩
              · refine v_aload_n F (pc := 69) dX5_next_69 rfl ?_
                refine v_iload F (pc := 70) dX5_next_70 rfl ?_
                refine v_callVp F (pc := 72) (As := [.int (iI (k))]) (rest := []) ci_X5_137 ct_X5_way cs_X5_way (k_X5_way l g hP hB_3 k (by omega)) dX5_next_72 (k0 := 8) rfl rfl (mh_0 hP) rfl rfl (Nat.le_of_ble_eq_true rfl) (Nat.le_of_ble_eq_true rfl) (Nat.le_of_ble_eq_true rfl) (Nat.le_of_ble_eq_true rfl) (Nat.le_of_ble_eq_true rfl) ?_ (fun _ _ z => z.elim)
                have rg_10 := m_way_rng hB (k := k) (by omega) (by omega)
                refine v_iload_n F (pc := 75) dX5_next_75 rfl ?_
                refine v_icmp_le F (pc := 76) (a := m_way σ k) (b := nx_b σ num) 105 dX5_next_76 (by decide) (by omega) (by omega) (fun c_11 => ?_) (fun c_11 => ?_)
                · refine v_iload F (pc := 105) dX5_next_105 rfl ?_
                  refine v_istore F (pc := 107) (lo' := [some (.ref (P 0)), some (.int (iI (num))), some (.int (iI (nx_at σ num))), some (.int (iI (nx_b σ num))), some (.int (iI (m_nb σ (nx_b σ num) k))), some (.int (iI (k)))]) dX5_next_107 (Nat.le_of_ble_eq_true rfl) rfl ?_
                  refine v_iinc F (pc := 109) (lo' := [some (.ref (P 0)), some (.int (iI (num))), some (.int (iI (nx_at σ num))), some (.int (iI (nx_b σ num))), some (.int (iI (m_nb σ (nx_b σ num) k))), some (.int (iI (k + 1)))]) dX5_next_109 rfl (Nat.le_of_ble_eq_true rfl) rfl ?_
                  refine v_goto F (pc := 112) 60 dX5_next_112 (by decide) ?_
                  have e_ : m_nb σ (nx_b σ num) (k + 1) = m_nb σ (nx_b σ num) k := by rw [m_nb_s σ _ hk0]; split <;> first | rfl | omega
                  have ih2 := ih (k + 1) (by omega) (by omega) (by omega)
                  rw [e_] at ih2
                  exact ih2
                · refine v_iload F (pc := 79) dX5_next_79 rfl ?_
                  refine v_iconst F (pc := 81) dX5_next_81 ?_
                  refine v_icmp_eq F (pc := 82) (a := m_nb σ (nx_b σ num) k) (b := -1) 100 dX5_next_82 (by decide) (by omega) (by omega) (fun c_12 => ?_) (fun c_12 => ?_)
                  · refine v_iload F (pc := 100) dX5_next_100 rfl ?_
                    refine v_goto F (pc := 102) 107 dX5_next_102 (by decide) ?_
                    refine v_istore F (pc := 107) (lo' := [some (.ref (P 0)), some (.int (iI (num))), some (.int (iI (nx_at σ num))), some (.int (iI (nx_b σ num))), some (.int (iI (k))), some (.int (iI (k)))]) dX5_next_107 (Nat.le_of_ble_eq_true rfl) rfl ?_
                    refine v_iinc F (pc := 109) (lo' := [some (.ref (P 0)), some (.int (iI (num))), some (.int (iI (nx_at σ num))), some (.int (iI (nx_b σ num))), some (.int (iI (k))), some (.int (iI (k + 1)))]) dX5_next_109 rfl (Nat.le_of_ble_eq_true rfl) rfl ?_
                    refine v_goto F (pc := 112) 60 dX5_next_112 (by decide) ?_
                    have e_ : m_nb σ (nx_b σ num) (k + 1) = k := by rw [m_nb_s σ _ hk0]; split <;> first | rfl | omega
                    have ih2 := ih (k + 1) (by omega) (by omega) (by omega)
                    rw [e_] at ih2
                    exact ih2
                  · refine v_aload_n F (pc := 85) dX5_next_85 rfl ?_
                    refine v_iload F (pc := 86) dX5_next_86 rfl ?_
                    refine v_callVp F (pc := 88) (As := [.int (iI (k))]) (rest := []) ci_X5_137 ct_X5_way cs_X5_way (k_X5_way l g hP hB_3 k (by omega)) dX5_next_88 (k0 := 8) rfl rfl (mh_0 hP) rfl rfl (Nat.le_of_ble_eq_true rfl) (Nat.le_of_ble_eq_true rfl) (Nat.le_of_ble_eq_true rfl) (Nat.le_of_ble_eq_true rfl) (Nat.le_of_ble_eq_true rfl) ?_ (fun _ _ z => z.elim)
                    have rg_13 := m_way_rng hB (k := k) (by omega) (by omega)
                    refine v_aload_n F (pc := 91) dX5_next_91 rfl ?_
                    refine v_iload F (pc := 92) dX5_next_92 rfl ?_
                    refine v_callVp F (pc := 94) (As := [.int (iI (m_nb σ (nx_b σ num) k))]) (rest := [.int (iI (m_way σ k))]) ci_X5_137 ct_X5_way cs_X5_way (k_X5_way l g hP hB_3 (m_nb σ (nx_b σ num) k) (by omega)) dX5_next_94 (k0 := 8) rfl rfl (mh_0 hP) rfl rfl (Nat.le_of_ble_eq_true rfl) (Nat.le_of_ble_eq_true rfl) (Nat.le_of_ble_eq_true rfl) (Nat.le_of_ble_eq_true rfl) (Nat.le_of_ble_eq_true rfl) ?_ (fun _ _ z => z.elim)
                    have rg_14 := m_way_rng hB (k := m_nb σ (nx_b σ num) k) (by omega) (by omega)
                    refine v_icmp_ge F (pc := 97) (a := m_way σ k) (b := m_way σ (m_nb σ (nx_b σ num) k)) 105 dX5_next_97 (by decide) (by omega) (by omega) (fun c_15 => ?_) (fun c_15 => ?_)
                    · refine v_iload F (pc := 105) dX5_next_105 rfl ?_
                      refine v_istore F (pc := 107) (lo' := [some (.ref (P 0)), some (.int (iI (num))), some (.int (iI (nx_at σ num))), some (.int (iI (nx_b σ num))), some (.int (iI (m_nb σ (nx_b σ num) k))), some (.int (iI (k)))]) dX5_next_107 (Nat.le_of_ble_eq_true rfl) rfl ?_
                      refine v_iinc F (pc := 109) (lo' := [some (.ref (P 0)), some (.int (iI (num))), some (.int (iI (nx_at σ num))), some (.int (iI (nx_b σ num))), some (.int (iI (m_nb σ (nx_b σ num) k))), some (.int (iI (k + 1)))]) dX5_next_109 rfl (Nat.le_of_ble_eq_true rfl) rfl ?_
                      refine v_goto F (pc := 112) 60 dX5_next_112 (by decide) ?_
                      have e_ : m_nb σ (nx_b σ num) (k + 1) = m_nb σ (nx_b σ num) k := by rw [m_nb_s σ _ hk0]; split <;> first | rfl | omega
                      have ih2 := ih (k + 1) (by omega) (by omega) (by omega)
                      rw [e_] at ih2
                      exact ih2
                    · refine v_iload F (pc := 100) dX5_next_100 rfl ?_
                      refine v_goto F (pc := 102) 107 dX5_next_102 (by decide) ?_
                      refine v_istore F (pc := 107) (lo' := [some (.ref (P 0)), some (.int (iI (num))), some (.int (iI (nx_at σ num))), some (.int (iI (nx_b σ num))), some (.int (iI (k))), some (.int (iI (k)))]) dX5_next_107 (Nat.le_of_ble_eq_true rfl) rfl ?_
                      refine v_iinc F (pc := 109) (lo' := [some (.ref (P 0)), some (.int (iI (num))), some (.int (iI (nx_at σ num))), some (.int (iI (nx_b σ num))), some (.int (iI (k))), some (.int (iI (k + 1)))]) dX5_next_109 rfl (Nat.le_of_ble_eq_true rfl) rfl ?_
                      refine v_goto F (pc := 112) 60 dX5_next_112 (by decide) ?_
                      have e_ : m_nb σ (nx_b σ num) (k + 1) = k := by rw [m_nb_s σ _ hk0]; split <;> first | rfl | omega
                      have ih2 := ih (k + 1) (by omega) (by omega) (by omega)
                      rw [e_] at ih2
                      exact ih2
          exact LP60 _ 0 (Int.le_refl 0) (by omega) (Nat.lt_succ_self _)
        refine v_iload_n F (pc := 39) dX5_next_39 rfl ?_
        refine v_iconst F (pc := 40) dX5_next_40 ?_
        refine v_icmp_ne F (pc := 41) (a := nx_at σ num) (b := -1) 48 dX5_next_41 (by decide) (by omega) (by omega) (fun c_16 => ?_) (fun c_16 => ?_)
        · refine v_aload_n F (pc := 48) dX5_next_48 rfl ?_
          refine v_iload_n F (pc := 49) dX5_next_49 rfl ?_
          refine v_callVp F (pc := 50) (As := [.int (iI (nx_at σ num))]) (rest := []) ci_X5_137 ct_X5_way cs_X5_way (k_X5_way l g hP hB_3 (nx_at σ num) (by omega)) dX5_next_50 (k0 := 8) rfl rfl (mh_0 hP) rfl rfl (Nat.le_of_ble_eq_true rfl) (Nat.le_of_ble_eq_true rfl) (Nat.le_of_ble_eq_true rfl) (Nat.le_of_ble_eq_true rfl) (Nat.le_of_ble_eq_true rfl) ?_ (fun _ _ z => z.elim)
          have rg_17 := m_way_rng hB (k := nx_at σ num) (by omega) (by omega)
          have rb := nx_b_rng hB num
          exact V.to J_5 rfl rfl (by rw [show nx_b σ num = m_way σ (nx_at σ num) from by unfold nx_b; split <;> first | rfl | omega]; try rfl)
        · refine v_iconst F (pc := 44) dX5_next_44 ?_
          refine v_goto F (pc := 45) 53 dX5_next_45 (by decide) ?_
          have rb := nx_b_rng hB num
          exact V.to J_5 rfl rfl (by rw [show nx_b σ num = -1 from by unfold nx_b; split <;> first | rfl | omega]; try rfl)
      · have c1 := of_decide_eq_false c_4
        refine v_iconst F (pc := 37) dX5_next_37 ?_
        refine v_iret F (pc := 38) (z := (iI (0))) dX5_next_38 rfl rfl (Nat.le_of_ble_eq_true rfl) (Nat.le_of_ble_eq_true rfl) ?_
        exact ⟨by rw [show nx_a σ num = 0 from if_neg c1], rfl⟩
    refine v_iload_n F (pc := 16) dX5_next_16 rfl ?_
    refine v_iconst F (pc := 17) dX5_next_17 ?_
    refine v_icmp_eq F (pc := 18) (a := num) (b := -1) 30 dX5_next_18 (by decide) (by omega) (by omega) (fun c_18 => ?_) (fun c_18 => ?_)
    · refine v_iconst F (pc := 30) dX5_next_30 ?_
      have rc := nx_c_rng σ num
      exact V.to J_2 rfl rfl (by exact congrArg (fun z => Value.int (iI z) :: [.ref (P 0)]) (show (0 : Int) = nx_c σ num by simp only [nx_c]; (repeat' split) <;> first | rfl | omega | (exfalso; omega) | simp_all))
    · refine v_iload_n F (pc := 21) dX5_next_21 rfl ?_
      refine v_iconst F (pc := 22) dX5_next_22 ?_
      refine v_icmp_ne F (pc := 23) (a := nx_at σ num) (b := -1) 30 dX5_next_23 (by decide) (by omega) (by omega) (fun c_19 => ?_) (fun c_19 => ?_)
      · refine v_iconst F (pc := 30) dX5_next_30 ?_
        have rc := nx_c_rng σ num
        exact V.to J_2 rfl rfl (by exact congrArg (fun z => Value.int (iI z) :: [.ref (P 0)]) (show (0 : Int) = nx_c σ num by simp only [nx_c]; (repeat' split) <;> first | rfl | omega | (exfalso; omega) | simp_all))
      · refine v_iconst F (pc := 26) dX5_next_26 ?_
        refine v_goto F (pc := 27) 31 dX5_next_27 (by decide) ?_
        have rc := nx_c_rng σ num
        exact V.to J_2 rfl rfl (by exact congrArg (fun z => Value.int (iI z) :: [.ref (P 0)]) (show (1 : Int) = nx_c σ num by simp only [nx_c]; (repeat' split) <;> first | rfl | omega | (exfalso; omega) | simp_all))
  refine v_iload_n F (pc := 0) dX5_next_0 rfl ?_
  refine v_iconst F (pc := 1) dX5_next_1 ?_
  refine v_icmp_ne F (pc := 2) (a := num) (b := -1) 9 dX5_next_2 (by decide) (by omega) (by omega) (fun c_20 => ?_) (fun c_20 => ?_)
  · refine v_aload_n F (pc := 9) dX5_next_9 rfl ?_
    refine v_iload_n F (pc := 10) dX5_next_10 rfl ?_
    refine v_callVp F (pc := 11) (As := [.int (iI (num))]) (rest := []) ci_X5_124 ct_X5_find cs_X5_find (k_X5_find l g hP hB num (by omega)) dX5_next_11 (k0 := 8) rfl rfl (mh_0 hP) rfl rfl (Nat.le_of_ble_eq_true rfl) (Nat.le_of_ble_eq_true rfl) (Nat.le_of_ble_eq_true rfl) (Nat.le_of_ble_eq_true rfl) (Nat.le_of_ble_eq_true rfl) ?_ (fun _ _ z => z.elim)
    have rg_21 := m_find_rng hB num
    have ra := nx_at_rng hB num
    exact V.to J_1 rfl rfl (by rw [show nx_at σ num = m_find σ num from by unfold nx_at; split <;> first | rfl | omega])
  · refine v_iconst F (pc := 5) dX5_next_5 ?_
    refine v_goto F (pc := 6) 14 dX5_next_6 (by decide) ?_
    have ra := nx_at_rng hB num
    exact V.to J_1 rfl rfl (by rw [show nx_at σ num = -1 from by unfold nx_at; split <;> first | rfl | omega])
-- X5_powerOf
set_option maxRecDepth 100000 in
set_option maxHeartbeats 8000000 in
theorem k_X5_powerOf (l : Launch) (g : gT) {P : Nat → Nat} {σ : sT} (hP : mok P) (hB : MB σ) (r f : Int) (hr : -2147483648 ≤ r ∧ r ≤ 2147483647) (hf : -2147483648 ≤ f ∧ f ≤ 2147483647) : CM l g yX5_powerOf cX5_powerOf 5 (some .int) ({ frames := 3, cells := 0, slots := 0, locals := 64 }) [.ref (P 0), .int (iI (r)), .int (iI (f))] (mheap g P σ) (pV (some (.int (iI (pO_a σ r f)))) (mheap g P (su σ 0 0 (rf_c σ r f)))) (noX) := by
  refine CM.of (lo := [some (.ref (P 0)), some (.int (iI (r))), some (.int (iI (f))), none, none]) (by decide) (Nat.le_of_ble_eq_true rfl) (by simp [Value.category]) rfl ?_
  intro pX eX sX mX bX tX cX AX F htab hmn
  have F : Fx pX l sX mX ([.ref (P 0), .int (iI (r)), .int (iI (f))] : List Value).toArray tX cX cX5_powerOf 5 (some .int) RX5 g AX := F
  have bm : (0 : Int) ≤ σ 17 0 ∧ σ 17 0 ≤ (60 : Int) := mb_nm hB
  have br : (0 : Int) ≤ σ 5 0 ∧ σ 5 0 ≤ (8 : Int) := mb_nr hB
  refine v_aload_n F (pc := 0) dX5_powerOf_0 rfl ?_
  have J_1 : VE pX l eX ({ frames := 3, cells := 0, slots := 0, locals := 64 }) sX mX ([.ref (P 0), .int (iI (r)), .int (iI (f))] : List Value).toArray bX tX cX 5 g AX (mheap g P σ) 0 0 27 [some (.ref (P 0)), some (.int (iI (r))), some (.int (iI (f))), none, none] [.int (iI (rf_c σ r f)), .ref (P 0)] (pV (some (.int (iI (pO_a σ r f)))) (mheap g P (su σ 0 0 (rf_c σ r f)))) (noX) 0 0 := by
    have rc := rf_c_rng σ r f
    refine v_callVp F (pc := 27) (As := [.int (iI (rf_c σ r f))]) (rest := []) ci_X5_84 ct_X5_isFine cs_X5_isFine (k_X5_isFine l g hP hB (rf_c σ r f) (by omega)) dX5_powerOf_27 (k0 := 8) rfl rfl (mh_0 hP) rfl rfl (Nat.le_of_ble_eq_true rfl) (Nat.le_of_ble_eq_true rfl) (Nat.le_of_ble_eq_true rfl) (Nat.le_of_ble_eq_true rfl) (Nat.le_of_ble_eq_true rfl) ?_ (fun _ _ z => z.elim)
    have hB_2 : MB (su σ 0 0 (rf_c σ r f)) := mb_su hB (show (0 : Int) ≤ rf_c σ r f ∧ rf_c σ r f ≤ (3 : Int) from by omega)
    refine v_if_neB F (pc := 30) (b := (decide (rf_c σ r f = 0))) 35 dX5_powerOf_30 (by decide) (fun c_3 => ?_) (fun c_3 => ?_)
    · have c0 := of_decide_eq_true c_3
      have f0 := rf_c0 c0
      refine v_iconst F (pc := 35) dX5_powerOf_35 ?_
      refine v_istore_n F (pc := 36) (lo' := [some (.ref (P 0)), some (.int (iI (r))), some (.int (iI (f))), some (.int (iI (0))), none]) dX5_powerOf_36 (Nat.le_of_ble_eq_true rfl) rfl ?_
      refine v_iconst F (pc := 37) dX5_powerOf_37 ?_
      refine v_istore F (pc := 38) (lo' := [some (.ref (P 0)), some (.int (iI (r))), some (.int (iI (f))), some (.int (iI (0))), some (.int (iI (0)))]) dX5_powerOf_38 (Nat.le_of_ble_eq_true rfl) rfl ?_
      have LP40 : ∀ (N_ : Nat) (k : Int), (0 ≤ k) → (k ≤ (σ 17 0)) → ((σ 17 0) - k).toNat < N_ → VE pX l eX ({ frames := 3, cells := 0, slots := 0, locals := 64 }) sX mX ([.ref (P 0), .int (iI (r)), .int (iI (f))] : List Value).toArray bX tX cX 5 g AX (mheap g P (su σ 0 0 (rf_c σ r f))) 0 0 40 [some (.ref (P 0)), some (.int (iI (r))), some (.int (iI (f))), some (.int (iI (sm (pwt σ r f) k))), some (.int (iI (k)))] [] (pV (some (.int (iI (pO_a σ r f)))) (mheap g P (su σ 0 0 (rf_c σ r f)))) (noX) 0 0 := by
        intro N_
        induction N_ with
        | zero => intro k _ _ hm_; exact absurd hm_ (Nat.not_lt_zero _)
        | succ N_ ih =>
          intro k hk0 hk1 hm_
          refine v_iload F (pc := 40) dX5_powerOf_40 rfl ?_
          refine v_aload_n F (pc := 42) dX5_powerOf_42 rfl ?_
          refine v_getf F (pc := 43) fd_X5_73_8 (v := .int (iI (σ 17 0))) dX5_powerOf_43 (mh_0 hP) rfl ?_
          have b_4 : (0 : Int) ≤ σ 17 0 ∧ σ 17 0 ≤ (60 : Int) := hB 17 0 (by decide) (by decide)
          refine v_icmp_ge F (pc := 46) (a := k) (b := σ 17 0) 80 dX5_powerOf_46 (by decide) (by omega) (by omega) (fun c_5 => ?_) (fun c_5 => ?_)
          · refine v_iload_n F (pc := 80) dX5_powerOf_80 rfl ?_
            refine v_iret F (pc := 81) (z := (iI (sm (pwt σ r f) k))) dX5_powerOf_81 rfl rfl (Nat.le_of_ble_eq_true rfl) (Nat.le_of_ble_eq_true rfl) ?_
            exact ⟨by rw [show pO_a σ r f = sm (pwt σ r f) (σ 17 0) from if_pos c0, show k = σ 17 0 by omega], rfl⟩
          · refine v_iload_n F (pc := 49) dX5_powerOf_49 rfl ?_
            refine v_aload_n F (pc := 50) dX5_powerOf_50 rfl ?_
            refine v_getf F (pc := 51) fd_X5_50_8 (v := .ref (P 15)) dX5_powerOf_51 (mh_0 hP) rfl ?_
            refine v_iload F (pc := 54) dX5_powerOf_54 rfl ?_
            refine v_iald F (pc := 56) (n := 60) (f := σ 15) (z := k) dX5_powerOf_56 (mh_15 hP) (by omega) (by decide) ?_
            have b_6 : (-1 : Int) ≤ (σ 15) k ∧ (σ 15) k ≤ (7 : Int) := hB 15 k (by omega) (show k < (60 : Int) by omega)
            refine v_iload_n F (pc := 57) dX5_powerOf_57 rfl ?_
            refine v_icmp_ne F (pc := 58) (a := (σ 15) k) (b := r) 71 dX5_powerOf_58 (by decide) (by omega) (by omega) (fun c_7 => ?_) (fun c_7 => ?_)
            · refine v_iconst F (pc := 71) dX5_powerOf_71 ?_
              refine v_iadd F (pc := 72) (a := sm (pwt σ r f) k) (b := 0) dX5_powerOf_72 ?_
              refine v_istore_n F (pc := 73) (lo' := [some (.ref (P 0)), some (.int (iI (r))), some (.int (iI (f))), some (.int (iI ((sm (pwt σ r f) k) + 0))), some (.int (iI (k)))]) dX5_powerOf_73 (Nat.le_of_ble_eq_true rfl) rfl ?_
              refine v_iinc F (pc := 74) (lo' := [some (.ref (P 0)), some (.int (iI (r))), some (.int (iI (f))), some (.int (iI ((sm (pwt σ r f) k) + 0))), some (.int (iI (k + 1)))]) dX5_powerOf_74 rfl (Nat.le_of_ble_eq_true rfl) rfl ?_
              refine v_goto F (pc := 77) 40 dX5_powerOf_77 (by decide) ?_
              have e_ : sm (pwt σ r f) (k + 1) = (sm (pwt σ r f) k) + 0 := by rw [sm_s _ hk0]; exact congrArg (fun z => sm (pwt σ r f) k + z) (show (pwt σ r f) k = 0 by simp only [pwt]; split <;> first | omega | simp_all)
              have ih2 := ih (k + 1) (by omega) (by omega) (by omega)
              rw [e_] at ih2
              exact ih2
            · refine v_aload_n F (pc := 61) dX5_powerOf_61 rfl ?_
              refine v_iload F (pc := 62) dX5_powerOf_62 rfl ?_
              refine v_iload_n F (pc := 64) dX5_powerOf_64 rfl ?_
              refine v_callVp F (pc := 65) (As := [.int (iI (k)), .int (iI (f))]) (rest := [.int (iI (sm (pwt σ r f) k))]) ci_X5_140 ct_X5_takes cs_X5_takes (k_X5_takes l g hP hB_2 k f (by omega) (by omega)) dX5_powerOf_65 (k0 := 8) rfl rfl (mh_0 hP) rfl rfl (Nat.le_of_ble_eq_true rfl) (Nat.le_of_ble_eq_true rfl) (Nat.le_of_ble_eq_true rfl) (Nat.le_of_ble_eq_true rfl) (Nat.le_of_ble_eq_true rfl) ?_ (fun _ _ z => z.elim)
              refine v_goto F (pc := 68) 72 dX5_powerOf_68 (by decide) ?_
              refine v_iadd F (pc := 72) (a := sm (pwt σ r f) k) (b := m_tk σ k f) dX5_powerOf_72 ?_
              refine v_istore_n F (pc := 73) (lo' := [some (.ref (P 0)), some (.int (iI (r))), some (.int (iI (f))), some (.int (iI ((sm (pwt σ r f) k) + (m_tk σ k f)))), some (.int (iI (k)))]) dX5_powerOf_73 (Nat.le_of_ble_eq_true rfl) rfl ?_
              refine v_iinc F (pc := 74) (lo' := [some (.ref (P 0)), some (.int (iI (r))), some (.int (iI (f))), some (.int (iI ((sm (pwt σ r f) k) + (m_tk σ k f)))), some (.int (iI (k + 1)))]) dX5_powerOf_74 rfl (Nat.le_of_ble_eq_true rfl) rfl ?_
              refine v_goto F (pc := 77) 40 dX5_powerOf_77 (by decide) ?_
              have e_ : sm (pwt σ r f) (k + 1) = (sm (pwt σ r f) k) + (m_tk σ k f) := by rw [sm_s _ hk0]; exact congrArg (fun z => sm (pwt σ r f) k + z) (show (pwt σ r f) k = (m_tk σ k f) by simp only [pwt]; split <;> first | omega | simp_all)
              have ih2 := ih (k + 1) (by omega) (by omega) (by omega)
              rw [e_] at ih2
              exact ih2
      exact LP40 _ 0 (Int.le_refl 0) (by omega) (Nat.lt_succ_self _)
    · have c1 := of_decide_eq_false c_3
      refine v_iconst F (pc := 33) dX5_powerOf_33 ?_
      refine v_iret F (pc := 34) (z := (iI (0))) dX5_powerOf_34 rfl rfl (Nat.le_of_ble_eq_true rfl) (Nat.le_of_ble_eq_true rfl) ?_
      exact ⟨by rw [show pO_a σ r f = 0 from if_neg c1], rfl⟩
  refine v_aload_n F (pc := 1) dX5_powerOf_1 rfl ?_
  refine v_iload_n F (pc := 2) dX5_powerOf_2 rfl ?_
  refine v_callVp F (pc := 3) (As := [.int (iI (r))]) (rest := [.ref (P 0)]) ci_X5_134 ct_X5_isRack cs_X5_isRack (k_X5_isRack l g hP hB r (by omega)) dX5_powerOf_3 (k0 := 8) rfl rfl (mh_0 hP) rfl rfl (Nat.le_of_ble_eq_true rfl) (Nat.le_of_ble_eq_true rfl) (Nat.le_of_ble_eq_true rfl) (Nat.le_of_ble_eq_true rfl) (Nat.le_of_ble_eq_true rfl) ?_ (fun _ _ z => z.elim)
  refine v_if_neB F (pc := 6) (b := (inn r 0 (σ 5 0 - 1))) 13 dX5_powerOf_6 (by decide) (fun c_8 => ?_) (fun c_8 => ?_)
  · refine v_iload_n F (pc := 13) dX5_powerOf_13 rfl ?_
    refine v_iconst F (pc := 14) dX5_powerOf_14 ?_
    refine v_iconst F (pc := 15) dX5_powerOf_15 ?_
    refine v_callSp F (pc := 16) (As := [.int (iI (f)), .int (iI (0)), .int (iI (1))]) (rest := [.ref (P 0)]) ci_X5_69 ct_X5_isIn (k_X5_isIn l g f 0 1 (by omega) (by omega) (by omega)) dX5_powerOf_16 rfl rfl (Nat.le_of_ble_eq_true rfl) (Nat.le_of_ble_eq_true rfl) (Nat.le_of_ble_eq_true rfl) (Nat.le_of_ble_eq_true rfl) (Nat.le_of_ble_eq_true rfl) ?_ (fun _ _ z => z.elim)
    refine v_if_neB F (pc := 19) (b := (inn f 0 1)) 26 dX5_powerOf_19 (by decide) (fun c_9 => ?_) (fun c_9 => ?_)
    · refine v_iconst F (pc := 26) dX5_powerOf_26 ?_
      have rc := rf_c_rng σ r f
      exact V.to J_1 rfl rfl (by exact congrArg (fun z => Value.int (iI z) :: [.ref (P 0)]) (show (0 : Int) = rf_c σ r f by simp only [rf_c, okR]; (repeat' split) <;> first | rfl | omega | (exfalso; omega) | simp_all))
    · refine v_iconst F (pc := 22) dX5_powerOf_22 ?_
      refine v_goto F (pc := 23) 27 dX5_powerOf_23 (by decide) ?_
      have rc := rf_c_rng σ r f
      exact V.to J_1 rfl rfl (by exact congrArg (fun z => Value.int (iI z) :: [.ref (P 0)]) (show (2 : Int) = rf_c σ r f by simp only [rf_c, okR]; (repeat' split) <;> first | rfl | omega | (exfalso; omega) | simp_all))
  · refine v_iconst F (pc := 9) dX5_powerOf_9 ?_
    refine v_goto F (pc := 10) 27 dX5_powerOf_10 (by decide) ?_
    have rc := rf_c_rng σ r f
    exact V.to J_1 rfl rfl (by exact congrArg (fun z => Value.int (iI z) :: [.ref (P 0)]) (show (1 : Int) = rf_c σ r f by simp only [rf_c, okR]; (repeat' split) <;> first | rfl | omega | (exfalso; omega) | simp_all))
-- X5_worstOf
set_option maxRecDepth 100000 in
set_option maxHeartbeats 8000000 in
theorem k_X5_worstOf (l : Launch) (g : gT) {P : Nat → Nat} {σ : sT} (hP : mok P) (hB : MB σ) (r f : Int) (hr : -2147483648 ≤ r ∧ r ≤ 2147483647) (hf : -2147483648 ≤ f ∧ f ≤ 2147483647) : CM l g yX5_worstOf cX5_worstOf 3 (some .int) ({ frames := 3, cells := 0, slots := 0, locals := 66 }) [.ref (P 0), .int (iI (r)), .int (iI (f))] (mheap g P σ) (pV (some (.int (iI (if rf_c σ r f = 0 then m_worst σ r f else 0)))) (mheap g P (su σ 0 0 (rf_c σ r f)))) (noX) := by
  refine CM.of (lo := [some (.ref (P 0)), some (.int (iI (r))), some (.int (iI (f)))]) (by decide) (Nat.le_of_ble_eq_true rfl) (by simp [Value.category]) rfl ?_
  intro pX eX sX mX bX tX cX AX F htab hmn
  have F : Fx pX l sX mX ([.ref (P 0), .int (iI (r)), .int (iI (f))] : List Value).toArray tX cX cX5_worstOf 3 (some .int) RX5 g AX := F
  have bm : (0 : Int) ≤ σ 17 0 ∧ σ 17 0 ≤ (60 : Int) := mb_nm hB
  have br : (0 : Int) ≤ σ 5 0 ∧ σ 5 0 ≤ (8 : Int) := mb_nr hB
  refine v_aload_n F (pc := 0) dX5_worstOf_0 rfl ?_
  have J_1 : VE pX l eX ({ frames := 3, cells := 0, slots := 0, locals := 66 }) sX mX ([.ref (P 0), .int (iI (r)), .int (iI (f))] : List Value).toArray bX tX cX 3 g AX (mheap g P σ) 0 0 27 [some (.ref (P 0)), some (.int (iI (r))), some (.int (iI (f)))] [.int (iI (rf_c σ r f)), .ref (P 0)] (pV (some (.int (iI (if rf_c σ r f = 0 then m_worst σ r f else 0)))) (mheap g P (su σ 0 0 (rf_c σ r f)))) (noX) 0 0 := by
    have rc := rf_c_rng σ r f
    refine v_callVp F (pc := 27) (As := [.int (iI (rf_c σ r f))]) (rest := []) ci_X5_84 ct_X5_isFine cs_X5_isFine (k_X5_isFine l g hP hB (rf_c σ r f) (by omega)) dX5_worstOf_27 (k0 := 8) rfl rfl (mh_0 hP) rfl rfl (Nat.le_of_ble_eq_true rfl) (Nat.le_of_ble_eq_true rfl) (Nat.le_of_ble_eq_true rfl) (Nat.le_of_ble_eq_true rfl) (Nat.le_of_ble_eq_true rfl) ?_ (fun _ _ z => z.elim)
    have hB_2 : MB (su σ 0 0 (rf_c σ r f)) := mb_su hB (show (0 : Int) ≤ rf_c σ r f ∧ rf_c σ r f ≤ (3 : Int) from by omega)
    refine v_if_eqB F (pc := 30) (b := (decide (rf_c σ r f = 0))) 42 dX5_worstOf_30 (by decide) (fun c_3 => ?_) (fun c_3 => ?_)
    · have c1 := of_decide_eq_false c_3
      refine v_iconst F (pc := 42) dX5_worstOf_42 ?_
      refine v_iret F (pc := 43) (z := (iI (0))) dX5_worstOf_43 rfl rfl (Nat.le_of_ble_eq_true rfl) (Nat.le_of_ble_eq_true rfl) ?_
      exact ⟨by rw [if_neg c1], rfl⟩
    · have c0 := of_decide_eq_true c_3
      have f0 := rf_c0 c0
      refine v_aload_n F (pc := 33) dX5_worstOf_33 rfl ?_
      refine v_iload_n F (pc := 34) dX5_worstOf_34 rfl ?_
      refine v_iload_n F (pc := 35) dX5_worstOf_35 rfl ?_
      refine v_callVp F (pc := 36) (As := [.int (iI (r)), .int (iI (f))]) (rest := []) ci_X5_94 ct_X5_worst cs_X5_worst (k_X5_worst l g hP hB_2 r f (by omega) (by omega)) dX5_worstOf_36 (k0 := 8) rfl rfl (mh_0 hP) rfl rfl (Nat.le_of_ble_eq_true rfl) (Nat.le_of_ble_eq_true rfl) (Nat.le_of_ble_eq_true rfl) (Nat.le_of_ble_eq_true rfl) (Nat.le_of_ble_eq_true rfl) ?_ (fun _ _ z => z.elim)
      have rg_4 := m_worst_rng hB r f
      refine v_goto F (pc := 39) 43 dX5_worstOf_39 (by decide) ?_
      refine v_iret F (pc := 43) (z := (iI (m_worst σ r f))) dX5_worstOf_43 rfl rfl (Nat.le_of_ble_eq_true rfl) (Nat.le_of_ble_eq_true rfl) ?_
      exact ⟨by rw [if_pos c0], rfl⟩
  refine v_aload_n F (pc := 1) dX5_worstOf_1 rfl ?_
  refine v_iload_n F (pc := 2) dX5_worstOf_2 rfl ?_
  refine v_callVp F (pc := 3) (As := [.int (iI (r))]) (rest := [.ref (P 0)]) ci_X5_134 ct_X5_isRack cs_X5_isRack (k_X5_isRack l g hP hB r (by omega)) dX5_worstOf_3 (k0 := 8) rfl rfl (mh_0 hP) rfl rfl (Nat.le_of_ble_eq_true rfl) (Nat.le_of_ble_eq_true rfl) (Nat.le_of_ble_eq_true rfl) (Nat.le_of_ble_eq_true rfl) (Nat.le_of_ble_eq_true rfl) ?_ (fun _ _ z => z.elim)
  refine v_if_neB F (pc := 6) (b := (inn r 0 (σ 5 0 - 1))) 13 dX5_worstOf_6 (by decide) (fun c_5 => ?_) (fun c_5 => ?_)
  · refine v_iload_n F (pc := 13) dX5_worstOf_13 rfl ?_
    refine v_iconst F (pc := 14) dX5_worstOf_14 ?_
    refine v_iconst F (pc := 15) dX5_worstOf_15 ?_
    refine v_callSp F (pc := 16) (As := [.int (iI (f)), .int (iI (0)), .int (iI (1))]) (rest := [.ref (P 0)]) ci_X5_69 ct_X5_isIn (k_X5_isIn l g f 0 1 (by omega) (by omega) (by omega)) dX5_worstOf_16 rfl rfl (Nat.le_of_ble_eq_true rfl) (Nat.le_of_ble_eq_true rfl) (Nat.le_of_ble_eq_true rfl) (Nat.le_of_ble_eq_true rfl) (Nat.le_of_ble_eq_true rfl) ?_ (fun _ _ z => z.elim)
    refine v_if_neB F (pc := 19) (b := (inn f 0 1)) 26 dX5_worstOf_19 (by decide) (fun c_6 => ?_) (fun c_6 => ?_)
    · refine v_iconst F (pc := 26) dX5_worstOf_26 ?_
      have rc := rf_c_rng σ r f
      exact V.to J_1 rfl rfl (by exact congrArg (fun z => Value.int (iI z) :: [.ref (P 0)]) (show (0 : Int) = rf_c σ r f by simp only [rf_c, okR]; (repeat' split) <;> first | rfl | omega | (exfalso; omega) | simp_all))
    · refine v_iconst F (pc := 22) dX5_worstOf_22 ?_
      refine v_goto F (pc := 23) 27 dX5_worstOf_23 (by decide) ?_
      have rc := rf_c_rng σ r f
      exact V.to J_1 rfl rfl (by exact congrArg (fun z => Value.int (iI z) :: [.ref (P 0)]) (show (2 : Int) = rf_c σ r f by simp only [rf_c, okR]; (repeat' split) <;> first | rfl | omega | (exfalso; omega) | simp_all))
  · refine v_iconst F (pc := 9) dX5_worstOf_9 ?_
    refine v_goto F (pc := 10) 27 dX5_worstOf_10 (by decide) ?_
    have rc := rf_c_rng σ r f
    exact V.to J_1 rfl rfl (by exact congrArg (fun z => Value.int (iI z) :: [.ref (P 0)]) (show (1 : Int) = rf_c σ r f by simp only [rf_c, okR]; (repeat' split) <;> first | rfl | omega | (exfalso; omega) | simp_all))
-- X5_weightOf
set_option maxRecDepth 100000 in
set_option maxHeartbeats 8000000 in
theorem k_X5_weightOf (l : Launch) (g : gT) {P : Nat → Nat} {σ : sT} (hP : mok P) (hB : MB σ) (r : Int) (hr : -2147483648 ≤ r ∧ r ≤ 2147483647) : CM l g yX5_weightOf cX5_weightOf 2 (some .int) ({ frames := 3, cells := 0, slots := 0, locals := 63 }) [.ref (P 0), .int (iI (r))] (mheap g P σ) (pV (some (.int (iI (if c01 (okR σ r) = 0 then m_weighs σ r else 0)))) (mheap g P (su σ 0 0 (c01 (okR σ r))))) (noX) := by
  refine CM.of (lo := [some (.ref (P 0)), some (.int (iI (r)))]) (by decide) (Nat.le_of_ble_eq_true rfl) (by simp [Value.category]) rfl ?_
  intro pX eX sX mX bX tX cX AX F htab hmn
  have F : Fx pX l sX mX ([.ref (P 0), .int (iI (r))] : List Value).toArray tX cX cX5_weightOf 2 (some .int) RX5 g AX := F
  have bm : (0 : Int) ≤ σ 17 0 ∧ σ 17 0 ≤ (60 : Int) := mb_nm hB
  have br : (0 : Int) ≤ σ 5 0 ∧ σ 5 0 ≤ (8 : Int) := mb_nr hB
  refine v_aload_n F (pc := 0) dX5_weightOf_0 rfl ?_
  have J_1 : VE pX l eX ({ frames := 3, cells := 0, slots := 0, locals := 63 }) sX mX ([.ref (P 0), .int (iI (r))] : List Value).toArray bX tX cX 2 g AX (mheap g P σ) 0 0 14 [some (.ref (P 0)), some (.int (iI (r)))] [.int (iI (c01 (okR σ r))), .ref (P 0)] (pV (some (.int (iI (if c01 (okR σ r) = 0 then m_weighs σ r else 0)))) (mheap g P (su σ 0 0 (c01 (okR σ r))))) (noX) 0 0 := by
    have rc := c01_rng (okR σ r)
    refine v_callVp F (pc := 14) (As := [.int (iI (c01 (okR σ r)))]) (rest := []) ci_X5_84 ct_X5_isFine cs_X5_isFine (k_X5_isFine l g hP hB (c01 (okR σ r)) (by omega)) dX5_weightOf_14 (k0 := 8) rfl rfl (mh_0 hP) rfl rfl (Nat.le_of_ble_eq_true rfl) (Nat.le_of_ble_eq_true rfl) (Nat.le_of_ble_eq_true rfl) (Nat.le_of_ble_eq_true rfl) (Nat.le_of_ble_eq_true rfl) ?_ (fun _ _ z => z.elim)
    have hB_2 : MB (su σ 0 0 (c01 (okR σ r))) := mb_su hB (show (0 : Int) ≤ c01 (okR σ r) ∧ c01 (okR σ r) ≤ (3 : Int) from by omega)
    refine v_if_eqB F (pc := 17) (b := (decide (c01 (okR σ r) = 0))) 28 dX5_weightOf_17 (by decide) (fun c_3 => ?_) (fun c_3 => ?_)
    · have c1 := of_decide_eq_false c_3
      refine v_iconst F (pc := 28) dX5_weightOf_28 ?_
      refine v_iret F (pc := 29) (z := (iI (0))) dX5_weightOf_29 rfl rfl (Nat.le_of_ble_eq_true rfl) (Nat.le_of_ble_eq_true rfl) ?_
      exact ⟨by rw [if_neg c1], rfl⟩
    · have c0 := of_decide_eq_true c_3
      have f0 := okR_iff.mp (c01_0 c0)
      refine v_aload_n F (pc := 20) dX5_weightOf_20 rfl ?_
      refine v_iload_n F (pc := 21) dX5_weightOf_21 rfl ?_
      refine v_callVp F (pc := 22) (As := [.int (iI (r))]) (rest := []) ci_X5_80 ct_X5_weighs cs_X5_weighs (k_X5_weighs l g hP hB_2 r (by omega)) dX5_weightOf_22 (k0 := 8) rfl rfl (mh_0 hP) rfl rfl (Nat.le_of_ble_eq_true rfl) (Nat.le_of_ble_eq_true rfl) (Nat.le_of_ble_eq_true rfl) (Nat.le_of_ble_eq_true rfl) (Nat.le_of_ble_eq_true rfl) ?_ (fun _ _ z => z.elim)
      have rg_4 := m_weighs_rng hB r
      refine v_goto F (pc := 25) 29 dX5_weightOf_25 (by decide) ?_
      refine v_iret F (pc := 29) (z := (iI (m_weighs σ r))) dX5_weightOf_29 rfl rfl (Nat.le_of_ble_eq_true rfl) (Nat.le_of_ble_eq_true rfl) ?_
      exact ⟨by rw [if_pos c0], rfl⟩
  refine v_aload_n F (pc := 1) dX5_weightOf_1 rfl ?_
  refine v_iload_n F (pc := 2) dX5_weightOf_2 rfl ?_
  refine v_callVp F (pc := 3) (As := [.int (iI (r))]) (rest := [.ref (P 0)]) ci_X5_134 ct_X5_isRack cs_X5_isRack (k_X5_isRack l g hP hB r (by omega)) dX5_weightOf_3 (k0 := 8) rfl rfl (mh_0 hP) rfl rfl (Nat.le_of_ble_eq_true rfl) (Nat.le_of_ble_eq_true rfl) (Nat.le_of_ble_eq_true rfl) (Nat.le_of_ble_eq_true rfl) (Nat.le_of_ble_eq_true rfl) ?_ (fun _ _ z => z.elim)
  refine v_if_eqB F (pc := 6) (b := (inn r 0 (σ 5 0 - 1))) 13 dX5_weightOf_6 (by decide) (fun c_5 => ?_) (fun c_5 => ?_)
  · refine v_iconst F (pc := 13) dX5_weightOf_13 ?_
    have rc := c01_rng (okR σ r)
    exact V.to J_1 rfl rfl (by exact congrArg (fun z => Value.int (iI z) :: [.ref (P 0)]) (show (1 : Int) = c01 (okR σ r) by simp only [c01, okR]; (repeat' split) <;> first | rfl | omega | (exfalso; omega) | simp_all))
  · refine v_iconst F (pc := 9) dX5_weightOf_9 ?_
    refine v_goto F (pc := 10) 14 dX5_weightOf_10 (by decide) ?_
    have rc := c01_rng (okR σ r)
    exact V.to J_1 rfl rfl (by exact congrArg (fun z => Value.int (iI z) :: [.ref (P 0)]) (show (0 : Int) = c01 (okR σ r) by simp only [c01, okR]; (repeat' split) <;> first | rfl | omega | (exfalso; omega) | simp_all))
-- X5_heatOf
set_option maxRecDepth 100000 in
set_option maxHeartbeats 8000000 in
theorem k_X5_heatOf (l : Launch) (g : gT) {P : Nat → Nat} {σ : sT} (hP : mok P) (hB : MB σ) (row : Int) (hrow : -2147483648 ≤ row ∧ row ≤ 2147483647) (hrk : ∀ k, 0 ≤ k → k < σ 17 0 → 0 ≤ σ 15 k) : CM l g yX5_heatOf cX5_heatOf 4 (some .int) ({ frames := 3, cells := 0, slots := 0, locals := 62 }) [.ref (P 0), .int (iI (row))] (mheap g P σ) (pV (some (.int (iI (hO_a σ row)))) (mheap g P (su σ 0 0 (c01 (inn row 0 3))))) (noX) := by
  refine CM.of (lo := [some (.ref (P 0)), some (.int (iI (row))), none, none]) (by decide) (Nat.le_of_ble_eq_true rfl) (by simp [Value.category]) rfl ?_
  intro pX eX sX mX bX tX cX AX F htab hmn
  have F : Fx pX l sX mX ([.ref (P 0), .int (iI (row))] : List Value).toArray tX cX cX5_heatOf 4 (some .int) RX5 g AX := F
  have bm : (0 : Int) ≤ σ 17 0 ∧ σ 17 0 ≤ (60 : Int) := mb_nm hB
  have br : (0 : Int) ≤ σ 5 0 ∧ σ 5 0 ≤ (8 : Int) := mb_nr hB
  refine v_aload_n F (pc := 0) dX5_heatOf_0 rfl ?_
  have J_1 : VE pX l eX ({ frames := 3, cells := 0, slots := 0, locals := 62 }) sX mX ([.ref (P 0), .int (iI (row))] : List Value).toArray bX tX cX 4 g AX (mheap g P σ) 0 0 15 [some (.ref (P 0)), some (.int (iI (row))), none, none] [.int (iI (c01 (inn row 0 3))), .ref (P 0)] (pV (some (.int (iI (hO_a σ row)))) (mheap g P (su σ 0 0 (c01 (inn row 0 3))))) (noX) 0 0 := by
    have rc := c01_rng (inn row 0 3)
    refine v_callVp F (pc := 15) (As := [.int (iI (c01 (inn row 0 3)))]) (rest := []) ci_X5_84 ct_X5_isFine cs_X5_isFine (k_X5_isFine l g hP hB (c01 (inn row 0 3)) (by omega)) dX5_heatOf_15 (k0 := 8) rfl rfl (mh_0 hP) rfl rfl (Nat.le_of_ble_eq_true rfl) (Nat.le_of_ble_eq_true rfl) (Nat.le_of_ble_eq_true rfl) (Nat.le_of_ble_eq_true rfl) (Nat.le_of_ble_eq_true rfl) ?_ (fun _ _ z => z.elim)
    have hB_2 : MB (su σ 0 0 (c01 (inn row 0 3))) := mb_su hB (show (0 : Int) ≤ c01 (inn row 0 3) ∧ c01 (inn row 0 3) ≤ (3 : Int) from by omega)
    refine v_if_neB F (pc := 18) (b := (decide (c01 (inn row 0 3) = 0))) 23 dX5_heatOf_18 (by decide) (fun c_3 => ?_) (fun c_3 => ?_)
    · have c0 := of_decide_eq_true c_3
      have f0 := inn_iff.mp (c01_0 c0)
      refine v_iconst F (pc := 23) dX5_heatOf_23 ?_
      refine v_istore_n F (pc := 24) (lo' := [some (.ref (P 0)), some (.int (iI (row))), some (.int (iI (0))), none]) dX5_heatOf_24 (Nat.le_of_ble_eq_true rfl) rfl ?_
      refine v_iconst F (pc := 25) dX5_heatOf_25 ?_
      refine v_istore_n F (pc := 26) (lo' := [some (.ref (P 0)), some (.int (iI (row))), some (.int (iI (0))), some (.int (iI (0)))]) dX5_heatOf_26 (Nat.le_of_ble_eq_true rfl) rfl ?_
      have LP27 : ∀ (N_ : Nat) (k : Int), (0 ≤ k) → (k ≤ (σ 17 0)) → ((σ 17 0) - k).toNat < N_ → VE pX l eX ({ frames := 3, cells := 0, slots := 0, locals := 62 }) sX mX ([.ref (P 0), .int (iI (row))] : List Value).toArray bX tX cX 4 g AX (mheap g P (su σ 0 0 (c01 (inn row 0 3)))) 0 0 27 [some (.ref (P 0)), some (.int (iI (row))), some (.int (iI (sm (hO_t σ row) k))), some (.int (iI (k)))] [] (pV (some (.int (iI (hO_a σ row)))) (mheap g P (su σ 0 0 (c01 (inn row 0 3))))) (noX) 0 0 := by
        intro N_
        induction N_ with
        | zero => intro k _ _ hm_; exact absurd hm_ (Nat.not_lt_zero _)
        | succ N_ ih =>
          intro k hk0 hk1 hm_
          refine v_iload_n F (pc := 27) dX5_heatOf_27 rfl ?_
          refine v_aload_n F (pc := 28) dX5_heatOf_28 rfl ?_
          refine v_getf F (pc := 29) fd_X5_73_8 (v := .int (iI (σ 17 0))) dX5_heatOf_29 (mh_0 hP) rfl ?_
          have b_4 : (0 : Int) ≤ σ 17 0 ∧ σ 17 0 ≤ (60 : Int) := hB 17 0 (by decide) (by decide)
          refine v_icmp_ge F (pc := 32) (a := k) (b := σ 17 0) 77 dX5_heatOf_32 (by decide) (by omega) (by omega) (fun c_5 => ?_) (fun c_5 => ?_)
          · refine v_iload_n F (pc := 77) dX5_heatOf_77 rfl ?_
            refine v_iret F (pc := 78) (z := (iI (sm (hO_t σ row) k))) dX5_heatOf_78 rfl rfl (Nat.le_of_ble_eq_true rfl) (Nat.le_of_ble_eq_true rfl) ?_
            exact ⟨by rw [show hO_a σ row = sm (hO_t σ row) (σ 17 0) from if_pos c0, show k = σ 17 0 by omega], rfl⟩
          · have rk9 := hrk k hk0 (by omega)
            refine v_iload_n F (pc := 35) dX5_heatOf_35 rfl ?_
            refine v_aload_n F (pc := 36) dX5_heatOf_36 rfl ?_
            refine v_getf F (pc := 37) fd_X5_7_8 (v := .ref (P 1)) dX5_heatOf_37 (mh_0 hP) rfl ?_
            refine v_aload_n F (pc := 40) dX5_heatOf_40 rfl ?_
            refine v_getf F (pc := 41) fd_X5_50_8 (v := .ref (P 15)) dX5_heatOf_41 (mh_0 hP) rfl ?_
            refine v_iload_n F (pc := 44) dX5_heatOf_44 rfl ?_
            refine v_iald F (pc := 45) (n := 60) (f := σ 15) (z := k) dX5_heatOf_45 (mh_15 hP) (by omega) (by decide) ?_
            have b_6 : (-1 : Int) ≤ (σ 15) k ∧ (σ 15) k ≤ (7 : Int) := hB 15 k (by omega) (show k < (60 : Int) by omega)
            refine v_iald F (pc := 46) (n := 8) (f := σ 1) (z := (σ 15) k) dX5_heatOf_46 (mh_1 hP) (by omega) (by decide) ?_
            have b_7 : (0 : Int) ≤ (σ 1) ((σ 15) k) ∧ (σ 1) ((σ 15) k) ≤ (3 : Int) := hB 1 ((σ 15) k) (by omega) (show (σ 15) k < (8 : Int) by omega)
            refine v_iload_n F (pc := 47) dX5_heatOf_47 rfl ?_
            refine v_icmp_ne F (pc := 48) (a := (σ 1) ((σ 15) k)) (b := row) 68 dX5_heatOf_48 (by decide) (by omega) (by omega) (fun c_8 => ?_) (fun c_8 => ?_)
            · refine v_iconst F (pc := 68) dX5_heatOf_68 ?_
              refine v_iadd F (pc := 69) (a := sm (hO_t σ row) k) (b := 0) dX5_heatOf_69 ?_
              refine v_istore_n F (pc := 70) (lo' := [some (.ref (P 0)), some (.int (iI (row))), some (.int (iI ((sm (hO_t σ row) k) + 0))), some (.int (iI (k)))]) dX5_heatOf_70 (Nat.le_of_ble_eq_true rfl) rfl ?_
              refine v_iinc F (pc := 71) (lo' := [some (.ref (P 0)), some (.int (iI (row))), some (.int (iI ((sm (hO_t σ row) k) + 0))), some (.int (iI (k + 1)))]) dX5_heatOf_71 rfl (Nat.le_of_ble_eq_true rfl) rfl ?_
              refine v_goto F (pc := 74) 27 dX5_heatOf_74 (by decide) ?_
              have e_ : sm (hO_t σ row) (k + 1) = (sm (hO_t σ row) k) + 0 := by rw [sm_s _ hk0]; exact congrArg (fun z => sm (hO_t σ row) k + z) (show (hO_t σ row) k = 0 by simp only [hO_t]; split <;> first | omega | simp_all)
              have ih2 := ih (k + 1) (by omega) (by omega) (by omega)
              rw [e_] at ih2
              exact ih2
            · refine v_aload_n F (pc := 51) dX5_heatOf_51 rfl ?_
              refine v_iload_n F (pc := 52) dX5_heatOf_52 rfl ?_
              refine v_callVp F (pc := 53) (As := [.int (iI (k))]) (rest := [.int (iI (sm (hO_t σ row) k))]) ci_X5_98 ct_X5_isDarkAt cs_X5_isDarkAt (k_X5_isDarkAt l g hP hB_2 k (by omega)) dX5_heatOf_53 (k0 := 8) rfl rfl (mh_0 hP) rfl rfl (Nat.le_of_ble_eq_true rfl) (Nat.le_of_ble_eq_true rfl) (Nat.le_of_ble_eq_true rfl) (Nat.le_of_ble_eq_true rfl) (Nat.le_of_ble_eq_true rfl) ?_ (fun _ _ z => z.elim)
              refine v_if_neB F (pc := 56) (b := (m_dark σ k)) 68 dX5_heatOf_56 (by decide) (fun c_9 => ?_) (fun c_9 => ?_)
              · refine v_iconst F (pc := 68) dX5_heatOf_68 ?_
                refine v_iadd F (pc := 69) (a := sm (hO_t σ row) k) (b := 0) dX5_heatOf_69 ?_
                refine v_istore_n F (pc := 70) (lo' := [some (.ref (P 0)), some (.int (iI (row))), some (.int (iI ((sm (hO_t σ row) k) + 0))), some (.int (iI (k)))]) dX5_heatOf_70 (Nat.le_of_ble_eq_true rfl) rfl ?_
                refine v_iinc F (pc := 71) (lo' := [some (.ref (P 0)), some (.int (iI (row))), some (.int (iI ((sm (hO_t σ row) k) + 0))), some (.int (iI (k + 1)))]) dX5_heatOf_71 rfl (Nat.le_of_ble_eq_true rfl) rfl ?_
                refine v_goto F (pc := 74) 27 dX5_heatOf_74 (by decide) ?_
                have e_ : sm (hO_t σ row) (k + 1) = (sm (hO_t σ row) k) + 0 := by rw [sm_s _ hk0]; exact congrArg (fun z => sm (hO_t σ row) k + z) (show (hO_t σ row) k = 0 by simp only [hO_t]; split <;> first | omega | simp_all)
                have ih2 := ih (k + 1) (by omega) (by omega) (by omega)
                rw [e_] at ih2
                exact ih2
              · refine v_aload_n F (pc := 59) dX5_heatOf_59 rfl ?_
                refine v_getf F (pc := 60) fd_X5_41_8 (v := .ref (P 12)) dX5_heatOf_60 (mh_0 hP) rfl ?_
                refine v_iload_n F (pc := 63) dX5_heatOf_63 rfl ?_
                refine v_iald F (pc := 64) (n := 60) (f := σ 12) (z := k) dX5_heatOf_64 (mh_12 hP) (by omega) (by decide) ?_
                have b_10 : (0 : Int) ≤ (σ 12) k ∧ (σ 12) k ≤ (2000 : Int) := hB 12 k (by omega) (show k < (60 : Int) by omega)
                refine v_goto F (pc := 65) 69 dX5_heatOf_65 (by decide) ?_
                refine v_iadd F (pc := 69) (a := sm (hO_t σ row) k) (b := (σ 12) k) dX5_heatOf_69 ?_
                refine v_istore_n F (pc := 70) (lo' := [some (.ref (P 0)), some (.int (iI (row))), some (.int (iI ((sm (hO_t σ row) k) + ((σ 12) k)))), some (.int (iI (k)))]) dX5_heatOf_70 (Nat.le_of_ble_eq_true rfl) rfl ?_
                refine v_iinc F (pc := 71) (lo' := [some (.ref (P 0)), some (.int (iI (row))), some (.int (iI ((sm (hO_t σ row) k) + ((σ 12) k)))), some (.int (iI (k + 1)))]) dX5_heatOf_71 rfl (Nat.le_of_ble_eq_true rfl) rfl ?_
                refine v_goto F (pc := 74) 27 dX5_heatOf_74 (by decide) ?_
                have e_ : sm (hO_t σ row) (k + 1) = (sm (hO_t σ row) k) + ((σ 12) k) := by rw [sm_s _ hk0]; exact congrArg (fun z => sm (hO_t σ row) k + z) (show (hO_t σ row) k = ((σ 12) k) by simp only [hO_t]; split <;> first | omega | simp_all)
                have ih2 := ih (k + 1) (by omega) (by omega) (by omega)
                rw [e_] at ih2
                exact ih2
      exact LP27 _ 0 (Int.le_refl 0) (by omega) (Nat.lt_succ_self _)
    · have c1 := of_decide_eq_false c_3
      refine v_iconst F (pc := 21) dX5_heatOf_21 ?_
      refine v_iret F (pc := 22) (z := (iI (0))) dX5_heatOf_22 rfl rfl (Nat.le_of_ble_eq_true rfl) (Nat.le_of_ble_eq_true rfl) ?_
      exact ⟨by rw [show hO_a σ row = 0 from if_neg c1], rfl⟩
  refine v_iload_n F (pc := 1) dX5_heatOf_1 rfl ?_
  refine v_iconst F (pc := 2) dX5_heatOf_2 ?_
  refine v_iconst F (pc := 3) dX5_heatOf_3 ?_
  refine v_callSp F (pc := 4) (As := [.int (iI (row)), .int (iI (0)), .int (iI (3))]) (rest := [.ref (P 0)]) ci_X5_69 ct_X5_isIn (k_X5_isIn l g row 0 3 (by omega) (by omega) (by omega)) dX5_heatOf_4 rfl rfl (Nat.le_of_ble_eq_true rfl) (Nat.le_of_ble_eq_true rfl) (Nat.le_of_ble_eq_true rfl) (Nat.le_of_ble_eq_true rfl) (Nat.le_of_ble_eq_true rfl) ?_ (fun _ _ z => z.elim)
  refine v_if_eqB F (pc := 7) (b := (inn row 0 3)) 14 dX5_heatOf_7 (by decide) (fun c_11 => ?_) (fun c_11 => ?_)
  · refine v_iconst F (pc := 14) dX5_heatOf_14 ?_
    have rc := c01_rng (inn row 0 3)
    exact V.to J_1 rfl rfl (by exact congrArg (fun z => Value.int (iI z) :: [.ref (P 0)]) (show (1 : Int) = c01 (inn row 0 3) by simp only [c01]; (repeat' split) <;> first | rfl | omega | (exfalso; omega) | simp_all))
  · refine v_iconst F (pc := 10) dX5_heatOf_10 ?_
    refine v_goto F (pc := 11) 15 dX5_heatOf_11 (by decide) ?_
    have rc := c01_rng (inn row 0 3)
    exact V.to J_1 rfl rfl (by exact congrArg (fun z => Value.int (iI z) :: [.ref (P 0)]) (show (0 : Int) = c01 (inn row 0 3) by simp only [c01]; (repeat' split) <;> first | rfl | omega | (exfalso; omega) | simp_all))
-- X5_gap
set_option maxRecDepth 100000 in
set_option maxHeartbeats 8000000 in
theorem k_X5_gap (l : Launch) (g : gT) {P : Nat → Nat} {σ : sT} (hP : mok P) (hB : MB σ) (r : Int) (hr : -2147483648 ≤ r ∧ r ≤ 2147483647) : CM l g yX5_gap cX5_gap 5 (some .int) ({ frames := 3, cells := 0, slots := 0, locals := 63 }) [.ref (P 0), .int (iI (r))] (mheap g P σ) (pV (some (.int (iI (if c01 (okR σ r) = 0 then (m_gap σ r (σ 2 r)).1 else 0)))) (mheap g P (su σ 0 0 (c01 (okR σ r))))) (noX) := by
  refine CM.of (lo := [some (.ref (P 0)), some (.int (iI (r))), none, none, none]) (by decide) (Nat.le_of_ble_eq_true rfl) (by simp [Value.category]) rfl ?_
  intro pX eX sX mX bX tX cX AX F htab hmn
  have F : Fx pX l sX mX ([.ref (P 0), .int (iI (r))] : List Value).toArray tX cX cX5_gap 5 (some .int) RX5 g AX := F
  have bm : (0 : Int) ≤ σ 17 0 ∧ σ 17 0 ≤ (60 : Int) := mb_nm hB
  have br : (0 : Int) ≤ σ 5 0 ∧ σ 5 0 ≤ (8 : Int) := mb_nr hB
  refine v_aload_n F (pc := 0) dX5_gap_0 rfl ?_
  have J_1 : VE pX l eX ({ frames := 3, cells := 0, slots := 0, locals := 63 }) sX mX ([.ref (P 0), .int (iI (r))] : List Value).toArray bX tX cX 5 g AX (mheap g P σ) 0 0 14 [some (.ref (P 0)), some (.int (iI (r))), none, none, none] [.int (iI (c01 (okR σ r))), .ref (P 0)] (pV (some (.int (iI (if c01 (okR σ r) = 0 then (m_gap σ r (σ 2 r)).1 else 0)))) (mheap g P (su σ 0 0 (c01 (okR σ r))))) (noX) 0 0 := by
    have rc := c01_rng (okR σ r)
    refine v_callVp F (pc := 14) (As := [.int (iI (c01 (okR σ r)))]) (rest := []) ci_X5_84 ct_X5_isFine cs_X5_isFine (k_X5_isFine l g hP hB (c01 (okR σ r)) (by omega)) dX5_gap_14 (k0 := 8) rfl rfl (mh_0 hP) rfl rfl (Nat.le_of_ble_eq_true rfl) (Nat.le_of_ble_eq_true rfl) (Nat.le_of_ble_eq_true rfl) (Nat.le_of_ble_eq_true rfl) (Nat.le_of_ble_eq_true rfl) ?_ (fun _ _ z => z.elim)
    have hB_2 : MB (su σ 0 0 (c01 (okR σ r))) := mb_su hB (show (0 : Int) ≤ c01 (okR σ r) ∧ c01 (okR σ r) ≤ (3 : Int) from by omega)
    refine v_if_neB F (pc := 17) (b := (decide (c01 (okR σ r) = 0))) 22 dX5_gap_17 (by decide) (fun c_3 => ?_) (fun c_3 => ?_)
    · have c0 := of_decide_eq_true c_3
      have f0 := okR_iff.mp (c01_0 c0)
      have bs : (0 : Int) ≤ σ 2 r ∧ σ 2 r ≤ (20 : Int) := hB 2 r f0.1 (show r < (8 : Int) by omega)
      refine v_iconst F (pc := 22) dX5_gap_22 ?_
      refine v_istore_n F (pc := 23) (lo' := [some (.ref (P 0)), some (.int (iI (r))), some (.int (iI (0))), none, none]) dX5_gap_23 (Nat.le_of_ble_eq_true rfl) rfl ?_
      refine v_iconst F (pc := 24) dX5_gap_24 ?_
      refine v_istore_n F (pc := 25) (lo' := [some (.ref (P 0)), some (.int (iI (r))), some (.int (iI (0))), some (.int (iI (0))), none]) dX5_gap_25 (Nat.le_of_ble_eq_true rfl) rfl ?_
      refine v_iconst F (pc := 26) dX5_gap_26 ?_
      refine v_istore F (pc := 27) (lo' := [some (.ref (P 0)), some (.int (iI (r))), some (.int (iI (0))), some (.int (iI (0))), some (.int (iI (0)))]) dX5_gap_27 (Nat.le_of_ble_eq_true rfl) rfl ?_
      have LP29 : ∀ (N_ : Nat) (s : Int), (0 ≤ s) → (s ≤ (σ 2 r)) → ((σ 2 r) - s).toNat < N_ → VE pX l eX ({ frames := 3, cells := 0, slots := 0, locals := 63 }) sX mX ([.ref (P 0), .int (iI (r))] : List Value).toArray bX tX cX 5 g AX (mheap g P (su σ 0 0 (c01 (okR σ r)))) 0 0 29 [some (.ref (P 0)), some (.int (iI (r))), some (.int (iI ((m_gap σ r s).1))), some (.int (iI ((m_gap σ r s).2))), some (.int (iI (s)))] [] (pV (some (.int (iI (if c01 (okR σ r) = 0 then (m_gap σ r (σ 2 r)).1 else 0)))) (mheap g P (su σ 0 0 (c01 (okR σ r))))) (noX) 0 0 := by
        intro N_
        induction N_ with
        | zero => intro s _ _ hm_; exact absurd hm_ (Nat.not_lt_zero _)
        | succ N_ ih =>
          intro s hs0 hs1 hm_
          have rk := m_gap_rng σ r hs0
          refine v_iload F (pc := 29) dX5_gap_29 rfl ?_
          refine v_aload_n F (pc := 31) dX5_gap_31 rfl ?_
          refine v_getf F (pc := 32) fd_X5_13_8 (v := .ref (P 2)) dX5_gap_32 (mh_0 hP) rfl ?_
          refine v_iload_n F (pc := 35) dX5_gap_35 rfl ?_
          refine v_iald F (pc := 36) (n := 8) (f := σ 2) (z := r) dX5_gap_36 (mh_2 hP) (by omega) (by decide) ?_
          have b_4 : (0 : Int) ≤ (σ 2) r ∧ (σ 2) r ≤ (20 : Int) := hB 2 r (by omega) (show r < (8 : Int) by omega)
          refine v_icmp_ge F (pc := 37) (a := s) (b := (σ 2) r) 76 dX5_gap_37 (by decide) (by omega) (by omega) (fun c_5 => ?_) (fun c_5 => ?_)
          · refine v_iload_n F (pc := 76) dX5_gap_76 rfl ?_
            refine v_iret F (pc := 77) (z := (iI ((m_gap σ r s).1))) dX5_gap_77 rfl rfl (Nat.le_of_ble_eq_true rfl) (Nat.le_of_ble_eq_true rfl) ?_
            exact ⟨by rw [if_pos c0, show s = σ 2 r by omega], rfl⟩
          · refine v_aload_n F (pc := 40) dX5_gap_40 rfl ?_
            refine v_iload_n F (pc := 41) dX5_gap_41 rfl ?_
            refine v_iload F (pc := 42) dX5_gap_42 rfl ?_
            refine v_callVp F (pc := 44) (As := [.int (iI (r)), .int (iI (s))]) (rest := []) ci_X5_101 ct_X5_inSlot cs_X5_inSlot (k_X5_inSlot l g hP hB_2 r s (by omega) (by omega)) dX5_gap_44 (k0 := 8) rfl rfl (mh_0 hP) rfl rfl (Nat.le_of_ble_eq_true rfl) (Nat.le_of_ble_eq_true rfl) (Nat.le_of_ble_eq_true rfl) (Nat.le_of_ble_eq_true rfl) (Nat.le_of_ble_eq_true rfl) ?_ (fun _ _ z => z.elim)
            have rg_6 := m_inSlot_rng hB r s
            refine v_iconst F (pc := 47) dX5_gap_47 ?_
            refine v_icmp_ne F (pc := 48) (a := m_inSlot σ r s) (b := -1) 57 dX5_gap_48 (by decide) (by omega) (by omega) (fun c_7 => ?_) (fun c_7 => ?_)
            · refine v_iconst F (pc := 57) dX5_gap_57 ?_
              refine v_istore_n F (pc := 58) (lo' := [some (.ref (P 0)), some (.int (iI (r))), some (.int (iI ((m_gap σ r s).1))), some (.int (iI (0))), some (.int (iI (s)))]) dX5_gap_58 (Nat.le_of_ble_eq_true rfl) rfl ?_
              refine v_iload_n F (pc := 59) dX5_gap_59 rfl ?_
              refine v_iload_n F (pc := 60) dX5_gap_60 rfl ?_
              refine v_icmp_le F (pc := 61) (a := 0) (b := (m_gap σ r s).1) 68 dX5_gap_61 (by decide) (by omega) (by omega) (fun c_8 => ?_) (fun c_8 => ?_)
              · refine v_iload_n F (pc := 68) dX5_gap_68 rfl ?_
                refine v_istore_n F (pc := 69) (lo' := [some (.ref (P 0)), some (.int (iI (r))), some (.int (iI ((m_gap σ r s).1))), some (.int (iI (0))), some (.int (iI (s)))]) dX5_gap_69 (Nat.le_of_ble_eq_true rfl) rfl ?_
                refine v_iinc F (pc := 70) (lo' := [some (.ref (P 0)), some (.int (iI (r))), some (.int (iI ((m_gap σ r s).1))), some (.int (iI (0))), some (.int (iI (s + 1)))]) dX5_gap_70 rfl (Nat.le_of_ble_eq_true rfl) rfl ?_
                refine v_goto F (pc := 73) 29 dX5_gap_73 (by decide) ?_
                have e_ : m_gap σ r (s + 1) = ((m_gap σ r s).1, 0) := by rw [m_gap_s σ r hs0]; (repeat' split) <;> first | rfl | (exfalso; omega) | simp_all
                have ih2 := ih (s + 1) (by omega) (by omega) (by omega)
                rw [e_] at ih2
                exact ih2
              · refine v_iload_n F (pc := 64) dX5_gap_64 rfl ?_
                refine v_goto F (pc := 65) 69 dX5_gap_65 (by decide) ?_
                refine v_istore_n F (pc := 69) (lo' := [some (.ref (P 0)), some (.int (iI (r))), some (.int (iI (0))), some (.int (iI (0))), some (.int (iI (s)))]) dX5_gap_69 (Nat.le_of_ble_eq_true rfl) rfl ?_
                refine v_iinc F (pc := 70) (lo' := [some (.ref (P 0)), some (.int (iI (r))), some (.int (iI (0))), some (.int (iI (0))), some (.int (iI (s + 1)))]) dX5_gap_70 rfl (Nat.le_of_ble_eq_true rfl) rfl ?_
                refine v_goto F (pc := 73) 29 dX5_gap_73 (by decide) ?_
                have e_ : m_gap σ r (s + 1) = (0, 0) := by rw [m_gap_s σ r hs0]; (repeat' split) <;> first | rfl | (exfalso; omega) | simp_all
                have ih2 := ih (s + 1) (by omega) (by omega) (by omega)
                rw [e_] at ih2
                exact ih2
            · refine v_iload_n F (pc := 51) dX5_gap_51 rfl ?_
              refine v_iconst F (pc := 52) dX5_gap_52 ?_
              refine v_iadd F (pc := 53) (a := (m_gap σ r s).2) (b := 1) dX5_gap_53 ?_
              refine v_goto F (pc := 54) 58 dX5_gap_54 (by decide) ?_
              refine v_istore_n F (pc := 58) (lo' := [some (.ref (P 0)), some (.int (iI (r))), some (.int (iI ((m_gap σ r s).1))), some (.int (iI (((m_gap σ r s).2) + 1))), some (.int (iI (s)))]) dX5_gap_58 (Nat.le_of_ble_eq_true rfl) rfl ?_
              refine v_iload_n F (pc := 59) dX5_gap_59 rfl ?_
              refine v_iload_n F (pc := 60) dX5_gap_60 rfl ?_
              refine v_icmp_le F (pc := 61) (a := ((m_gap σ r s).2) + 1) (b := (m_gap σ r s).1) 68 dX5_gap_61 (by decide) (by omega) (by omega) (fun c_9 => ?_) (fun c_9 => ?_)
              · refine v_iload_n F (pc := 68) dX5_gap_68 rfl ?_
                refine v_istore_n F (pc := 69) (lo' := [some (.ref (P 0)), some (.int (iI (r))), some (.int (iI ((m_gap σ r s).1))), some (.int (iI (((m_gap σ r s).2) + 1))), some (.int (iI (s)))]) dX5_gap_69 (Nat.le_of_ble_eq_true rfl) rfl ?_
                refine v_iinc F (pc := 70) (lo' := [some (.ref (P 0)), some (.int (iI (r))), some (.int (iI ((m_gap σ r s).1))), some (.int (iI (((m_gap σ r s).2) + 1))), some (.int (iI (s + 1)))]) dX5_gap_70 rfl (Nat.le_of_ble_eq_true rfl) rfl ?_
                refine v_goto F (pc := 73) 29 dX5_gap_73 (by decide) ?_
                have e_ : m_gap σ r (s + 1) = ((m_gap σ r s).1, ((m_gap σ r s).2) + 1) := by rw [m_gap_s σ r hs0]; (repeat' split) <;> first | rfl | (exfalso; omega) | simp_all
                have ih2 := ih (s + 1) (by omega) (by omega) (by omega)
                rw [e_] at ih2
                exact ih2
              · refine v_iload_n F (pc := 64) dX5_gap_64 rfl ?_
                refine v_goto F (pc := 65) 69 dX5_gap_65 (by decide) ?_
                refine v_istore_n F (pc := 69) (lo' := [some (.ref (P 0)), some (.int (iI (r))), some (.int (iI (((m_gap σ r s).2) + 1))), some (.int (iI (((m_gap σ r s).2) + 1))), some (.int (iI (s)))]) dX5_gap_69 (Nat.le_of_ble_eq_true rfl) rfl ?_
                refine v_iinc F (pc := 70) (lo' := [some (.ref (P 0)), some (.int (iI (r))), some (.int (iI (((m_gap σ r s).2) + 1))), some (.int (iI (((m_gap σ r s).2) + 1))), some (.int (iI (s + 1)))]) dX5_gap_70 rfl (Nat.le_of_ble_eq_true rfl) rfl ?_
                refine v_goto F (pc := 73) 29 dX5_gap_73 (by decide) ?_
                have e_ : m_gap σ r (s + 1) = (((m_gap σ r s).2) + 1, ((m_gap σ r s).2) + 1) := by rw [m_gap_s σ r hs0]; (repeat' split) <;> first | rfl | (exfalso; omega) | simp_all
                have ih2 := ih (s + 1) (by omega) (by omega) (by omega)
                rw [e_] at ih2
                exact ih2
      exact LP29 _ 0 (Int.le_refl 0) (by omega) (Nat.lt_succ_self _)
    · have c1 := of_decide_eq_false c_3
      refine v_iconst F (pc := 20) dX5_gap_20 ?_
      refine v_iret F (pc := 21) (z := (iI (0))) dX5_gap_21 rfl rfl (Nat.le_of_ble_eq_true rfl) (Nat.le_of_ble_eq_true rfl) ?_
      exact ⟨by rw [if_neg c1], rfl⟩
  refine v_aload_n F (pc := 1) dX5_gap_1 rfl ?_
  refine v_iload_n F (pc := 2) dX5_gap_2 rfl ?_
  refine v_callVp F (pc := 3) (As := [.int (iI (r))]) (rest := [.ref (P 0)]) ci_X5_134 ct_X5_isRack cs_X5_isRack (k_X5_isRack l g hP hB r (by omega)) dX5_gap_3 (k0 := 8) rfl rfl (mh_0 hP) rfl rfl (Nat.le_of_ble_eq_true rfl) (Nat.le_of_ble_eq_true rfl) (Nat.le_of_ble_eq_true rfl) (Nat.le_of_ble_eq_true rfl) (Nat.le_of_ble_eq_true rfl) ?_ (fun _ _ z => z.elim)
  refine v_if_eqB F (pc := 6) (b := (inn r 0 (σ 5 0 - 1))) 13 dX5_gap_6 (by decide) (fun c_10 => ?_) (fun c_10 => ?_)
  · refine v_iconst F (pc := 13) dX5_gap_13 ?_
    have rc := c01_rng (okR σ r)
    exact V.to J_1 rfl rfl (by exact congrArg (fun z => Value.int (iI z) :: [.ref (P 0)]) (show (1 : Int) = c01 (okR σ r) by simp only [c01, okR]; (repeat' split) <;> first | rfl | omega | (exfalso; omega) | simp_all))
  · refine v_iconst F (pc := 9) dX5_gap_9 ?_
    refine v_goto F (pc := 10) 14 dX5_gap_10 (by decide) ?_
    have rc := c01_rng (okR σ r)
    exact V.to J_1 rfl rfl (by exact congrArg (fun z => Value.int (iI z) :: [.ref (P 0)]) (show (0 : Int) = c01 (okR σ r) by simp only [c01, okR]; (repeat' split) <;> first | rfl | omega | (exfalso; omega) | simp_all))
-- X5_racksFor
set_option maxRecDepth 100000 in
set_option maxHeartbeats 8000000 in
theorem k_X5_racksFor (l : Launch) (g : gT) {P : Nat → Nat} {σ : sT} (hP : mok P) (hB : MB σ) (n p w c : Int) (hn : -2147483648 ≤ n ∧ n ≤ 2147483647) (hp : -2147483648 ≤ p ∧ p ≤ 2147483647) (hw : -2147483648 ≤ w ∧ w ≤ 2147483647) (hc : -2147483648 ≤ c ∧ c ≤ 2147483647) : CM l g yX5_racksFor cX5_racksFor 7 (some .int) ({ frames := 5, cells := 0, slots := 0, locals := 120 }) [.ref (P 0), .int (iI (n)), .int (iI (p)), .int (iI (w)), .int (iI (c))] (mheap g P σ) (pV (some (.int (iI (rF_a σ n p w c)))) (mheap g P (su σ 0 0 (c01 (m_kind n p w c))))) (noX) := by
  refine CM.of (lo := [some (.ref (P 0)), some (.int (iI (n))), some (.int (iI (p))), some (.int (iI (w))), some (.int (iI (c))), none, none]) (by decide) (Nat.le_of_ble_eq_true rfl) (by simp [Value.category]) rfl ?_
  intro pX eX sX mX bX tX cX AX F htab hmn
  have F : Fx pX l sX mX ([.ref (P 0), .int (iI (n)), .int (iI (p)), .int (iI (w)), .int (iI (c))] : List Value).toArray tX cX cX5_racksFor 7 (some .int) RX5 g AX := F
  have bm : (0 : Int) ≤ σ 17 0 ∧ σ 17 0 ≤ (60 : Int) := mb_nm hB
  have br : (0 : Int) ≤ σ 5 0 ∧ σ 5 0 ≤ (8 : Int) := mb_nr hB
  refine v_aload_n F (pc := 0) dX5_racksFor_0 rfl ?_
  have J_1 : VE pX l eX ({ frames := 5, cells := 0, slots := 0, locals := 120 }) sX mX ([.ref (P 0), .int (iI (n)), .int (iI (p)), .int (iI (w)), .int (iI (c))] : List Value).toArray bX tX cX 7 g AX (mheap g P σ) 0 0 17 [some (.ref (P 0)), some (.int (iI (n))), some (.int (iI (p))), some (.int (iI (w))), some (.int (iI (c))), none, none] [.int (iI (c01 (m_kind n p w c))), .ref (P 0)] (pV (some (.int (iI (rF_a σ n p w c)))) (mheap g P (su σ 0 0 (c01 (m_kind n p w c))))) (noX) 0 0 := by
    have rc := c01_rng (m_kind n p w c)
    refine v_callVp F (pc := 17) (As := [.int (iI (c01 (m_kind n p w c)))]) (rest := []) ci_X5_84 ct_X5_isFine cs_X5_isFine (k_X5_isFine l g hP hB (c01 (m_kind n p w c)) (by omega)) dX5_racksFor_17 (k0 := 8) rfl rfl (mh_0 hP) rfl rfl (Nat.le_of_ble_eq_true rfl) (Nat.le_of_ble_eq_true rfl) (Nat.le_of_ble_eq_true rfl) (Nat.le_of_ble_eq_true rfl) (Nat.le_of_ble_eq_true rfl) ?_ (fun _ _ z => z.elim)
    have hB_2 : MB (su σ 0 0 (c01 (m_kind n p w c))) := mb_su hB (show (0 : Int) ≤ c01 (m_kind n p w c) ∧ c01 (m_kind n p w c) ≤ (3 : Int) from by omega)
    refine v_if_neB F (pc := 20) (b := (decide (c01 (m_kind n p w c) = 0))) 25 dX5_racksFor_20 (by decide) (fun c_3 => ?_) (fun c_3 => ?_)
    · have c0 := of_decide_eq_true c_3
      have f0 := kind_iff.mp (c01_0 c0)
      refine v_iconst F (pc := 25) dX5_racksFor_25 ?_
      refine v_istore F (pc := 26) (lo' := [some (.ref (P 0)), some (.int (iI (n))), some (.int (iI (p))), some (.int (iI (w))), some (.int (iI (c))), some (.int (iI (0))), none]) dX5_racksFor_26 (Nat.le_of_ble_eq_true rfl) rfl ?_
      refine v_iconst F (pc := 28) dX5_racksFor_28 ?_
      refine v_istore F (pc := 29) (lo' := [some (.ref (P 0)), some (.int (iI (n))), some (.int (iI (p))), some (.int (iI (w))), some (.int (iI (c))), some (.int (iI (0))), some (.int (iI (0)))]) dX5_racksFor_29 (Nat.le_of_ble_eq_true rfl) rfl ?_
      have LP31 : ∀ (N_ : Nat) (k : Int), (0 ≤ k) → (k ≤ (σ 5 0)) → ((σ 5 0) - k).toNat < N_ → VE pX l eX ({ frames := 5, cells := 0, slots := 0, locals := 120 }) sX mX ([.ref (P 0), .int (iI (n)), .int (iI (p)), .int (iI (w)), .int (iI (c))] : List Value).toArray bX tX cX 7 g AX (mheap g P (su σ 0 0 (c01 (m_kind n p w c)))) 0 0 31 [some (.ref (P 0)), some (.int (iI (n))), some (.int (iI (p))), some (.int (iI (w))), some (.int (iI (c))), some (.int (iI (sm (rF_t σ n p w c) k))), some (.int (iI (k)))] [] (pV (some (.int (iI (rF_a σ n p w c)))) (mheap g P (su σ 0 0 (c01 (m_kind n p w c))))) (noX) 0 0 := by
        intro N_
        induction N_ with
        | zero => intro k _ _ hm_; exact absurd hm_ (Nat.not_lt_zero _)
        | succ N_ ih =>
          intro k hk0 hk1 hm_
          refine v_iload F (pc := 31) dX5_racksFor_31 rfl ?_
          refine v_aload_n F (pc := 33) dX5_racksFor_33 rfl ?_
          refine v_getf F (pc := 34) fd_X5_66_8 (v := .int (iI (σ 5 0))) dX5_racksFor_34 (mh_0 hP) rfl ?_
          have b_4 : (0 : Int) ≤ σ 5 0 ∧ σ 5 0 ≤ (8 : Int) := hB 5 0 (by decide) (by decide)
          refine v_icmp_ge F (pc := 37) (a := k) (b := σ 5 0) 74 dX5_racksFor_37 (by decide) (by omega) (by omega) (fun c_5 => ?_) (fun c_5 => ?_)
          · refine v_iload F (pc := 74) dX5_racksFor_74 rfl ?_
            refine v_iret F (pc := 76) (z := (iI (sm (rF_t σ n p w c) k))) dX5_racksFor_76 rfl rfl (Nat.le_of_ble_eq_true rfl) (Nat.le_of_ble_eq_true rfl) ?_
            exact ⟨by rw [show rF_a σ n p w c = sm (rF_t σ n p w c) (σ 5 0) from if_pos c0, show k = σ 5 0 by omega], rfl⟩
          · refine v_iload F (pc := 40) dX5_racksFor_40 rfl ?_
            refine v_aload_n F (pc := 42) dX5_racksFor_42 rfl ?_
            refine v_iload F (pc := 43) dX5_racksFor_43 rfl ?_
            refine v_iload_n F (pc := 45) dX5_racksFor_45 rfl ?_
            refine v_iload_n F (pc := 46) dX5_racksFor_46 rfl ?_
            refine v_iload_n F (pc := 47) dX5_racksFor_47 rfl ?_
            refine v_iload F (pc := 48) dX5_racksFor_48 rfl ?_
            refine v_callVp F (pc := 50) (As := [.int (iI (k)), .int (iI (n)), .int (iI (p)), .int (iI (w)), .int (iI (c))]) (rest := [.int (iI (sm (rF_t σ n p w c) k))]) ci_X5_111 ct_X5_slotIn cs_X5_slotIn (k_X5_slotIn l g hP hB_2 k n p w c (by omega) (by omega) (by omega) (by omega) (by omega)) dX5_racksFor_50 (k0 := 8) rfl rfl (mh_0 hP) rfl rfl (Nat.le_of_ble_eq_true rfl) (Nat.le_of_ble_eq_true rfl) (Nat.le_of_ble_eq_true rfl) (Nat.le_of_ble_eq_true rfl) (Nat.le_of_ble_eq_true rfl) ?_ (fun _ _ z => z.elim)
            have rg_6 := m_slotIn_rng hB (r := k) (by omega) n p w c
            refine v_iconst F (pc := 53) dX5_racksFor_53 ?_
            refine v_icmp_eq F (pc := 54) (a := m_slotIn σ k n p w c) (b := -1) 64 dX5_racksFor_54 (by decide) (by omega) (by omega) (fun c_7 => ?_) (fun c_7 => ?_)
            · refine v_iconst F (pc := 64) dX5_racksFor_64 ?_
              refine v_iadd F (pc := 65) (a := sm (rF_t σ n p w c) k) (b := 0) dX5_racksFor_65 ?_
              refine v_istore F (pc := 66) (lo' := [some (.ref (P 0)), some (.int (iI (n))), some (.int (iI (p))), some (.int (iI (w))), some (.int (iI (c))), some (.int (iI ((sm (rF_t σ n p w c) k) + 0))), some (.int (iI (k)))]) dX5_racksFor_66 (Nat.le_of_ble_eq_true rfl) rfl ?_
              refine v_iinc F (pc := 68) (lo' := [some (.ref (P 0)), some (.int (iI (n))), some (.int (iI (p))), some (.int (iI (w))), some (.int (iI (c))), some (.int (iI ((sm (rF_t σ n p w c) k) + 0))), some (.int (iI (k + 1)))]) dX5_racksFor_68 rfl (Nat.le_of_ble_eq_true rfl) rfl ?_
              refine v_goto F (pc := 71) 31 dX5_racksFor_71 (by decide) ?_
              have e_ : sm (rF_t σ n p w c) (k + 1) = (sm (rF_t σ n p w c) k) + 0 := by rw [sm_s _ hk0]; exact congrArg (fun z => sm (rF_t σ n p w c) k + z) (show (rF_t σ n p w c) k = 0 by simp only [rF_t]; split <;> first | omega | simp_all)
              have ih2 := ih (k + 1) (by omega) (by omega) (by omega)
              rw [e_] at ih2
              exact ih2
            · refine v_iconst F (pc := 57) dX5_racksFor_57 ?_
              refine v_iload F (pc := 58) dX5_racksFor_58 rfl ?_
              refine v_ishl1 F (pc := 60) (r := k) dX5_racksFor_60 (by omega) ?_
              refine v_goto F (pc := 61) 65 dX5_racksFor_61 (by decide) ?_
              refine v_iadd F (pc := 65) (a := sm (rF_t σ n p w c) k) (b := p2 k) dX5_racksFor_65 ?_
              refine v_istore F (pc := 66) (lo' := [some (.ref (P 0)), some (.int (iI (n))), some (.int (iI (p))), some (.int (iI (w))), some (.int (iI (c))), some (.int (iI ((sm (rF_t σ n p w c) k) + (p2 k)))), some (.int (iI (k)))]) dX5_racksFor_66 (Nat.le_of_ble_eq_true rfl) rfl ?_
              refine v_iinc F (pc := 68) (lo' := [some (.ref (P 0)), some (.int (iI (n))), some (.int (iI (p))), some (.int (iI (w))), some (.int (iI (c))), some (.int (iI ((sm (rF_t σ n p w c) k) + (p2 k)))), some (.int (iI (k + 1)))]) dX5_racksFor_68 rfl (Nat.le_of_ble_eq_true rfl) rfl ?_
              refine v_goto F (pc := 71) 31 dX5_racksFor_71 (by decide) ?_
              have e_ : sm (rF_t σ n p w c) (k + 1) = (sm (rF_t σ n p w c) k) + (p2 k) := by rw [sm_s _ hk0]; exact congrArg (fun z => sm (rF_t σ n p w c) k + z) (show (rF_t σ n p w c) k = (p2 k) by simp only [rF_t]; split <;> first | omega | simp_all)
              have ih2 := ih (k + 1) (by omega) (by omega) (by omega)
              rw [e_] at ih2
              exact ih2
      exact LP31 _ 0 (Int.le_refl 0) (by omega) (Nat.lt_succ_self _)
    · have c1 := of_decide_eq_false c_3
      refine v_iconst F (pc := 23) dX5_racksFor_23 ?_
      refine v_iret F (pc := 24) (z := (iI (0))) dX5_racksFor_24 rfl rfl (Nat.le_of_ble_eq_true rfl) (Nat.le_of_ble_eq_true rfl) ?_
      exact ⟨by rw [show rF_a σ n p w c = 0 from if_neg c1], rfl⟩
  refine v_iload_n F (pc := 1) dX5_racksFor_1 rfl ?_
  refine v_iload_n F (pc := 2) dX5_racksFor_2 rfl ?_
  refine v_iload_n F (pc := 3) dX5_racksFor_3 rfl ?_
  refine v_iload F (pc := 4) dX5_racksFor_4 rfl ?_
  refine v_callSp F (pc := 6) (As := [.int (iI (n)), .int (iI (p)), .int (iI (w)), .int (iI (c))]) (rest := [.ref (P 0)]) ci_X5_115 ct_X5_isKind (k_X5_isKind l g n p w c (by omega) (by omega) (by omega) (by omega)) dX5_racksFor_6 rfl rfl (Nat.le_of_ble_eq_true rfl) (Nat.le_of_ble_eq_true rfl) (Nat.le_of_ble_eq_true rfl) (Nat.le_of_ble_eq_true rfl) (Nat.le_of_ble_eq_true rfl) ?_ (fun _ _ z => z.elim)
  refine v_if_eqB F (pc := 9) (b := (m_kind n p w c)) 16 dX5_racksFor_9 (by decide) (fun c_8 => ?_) (fun c_8 => ?_)
  · refine v_iconst F (pc := 16) dX5_racksFor_16 ?_
    have rc := c01_rng (m_kind n p w c)
    exact V.to J_1 rfl rfl (by exact congrArg (fun z => Value.int (iI z) :: [.ref (P 0)]) (show (1 : Int) = c01 (m_kind n p w c) by simp only [c01]; (repeat' split) <;> first | rfl | omega | (exfalso; omega) | simp_all))
  · refine v_iconst F (pc := 12) dX5_racksFor_12 ?_
    refine v_goto F (pc := 13) 17 dX5_racksFor_13 (by decide) ?_
    have rc := c01_rng (m_kind n p w c)
    exact V.to J_1 rfl rfl (by exact congrArg (fun z => Value.int (iI z) :: [.ref (P 0)]) (show (0 : Int) = c01 (m_kind n p w c) by simp only [c01]; (repeat' split) <;> first | rfl | omega | (exfalso; omega) | simp_all))
-- X5_roomByCounting
set_option maxRecDepth 100000 in
set_option maxHeartbeats 8000000 in
theorem k_X5_roomByCounting (l : Launch) (g : gT) {P : Nat → Nat} {σ : sT} (hP : mok P) (hB : MB σ) (n p w c : Int) (hn : -2147483648 ≤ n ∧ n ≤ 2147483647) (hp : -2147483648 ≤ p ∧ p ≤ 2147483647) (hw : -2147483648 ≤ w ∧ w ≤ 2147483647) (hc : -2147483648 ≤ c ∧ c ≤ 2147483647) (hL : ML σ) : CM l g yX5_roomByCounting cX5_roomByCounting 9 (some .int) ({ frames := 4, cells := 0, slots := 0, locals := 94 }) [.ref (P 0), .int (iI (n)), .int (iI (p)), .int (iI (w)), .int (iI (c))] (mheap g P σ) (pV (some (.int (iI (rc_a σ n p w c)))) (mheap g P (su σ 0 0 (c01 (m_kind n p w c))))) (noX) := by
  refine CM.of (lo := [some (.ref (P 0)), some (.int (iI (n))), some (.int (iI (p))), some (.int (iI (w))), some (.int (iI (c))), none, none, none, none]) (by decide) (Nat.le_of_ble_eq_true rfl) (by simp [Value.category]) rfl ?_
  intro pX eX sX mX bX tX cX AX F htab hmn
  have F : Fx pX l sX mX ([.ref (P 0), .int (iI (n)), .int (iI (p)), .int (iI (w)), .int (iI (c))] : List Value).toArray tX cX cX5_roomByCounting 9 (some .int) RX5 g AX := F
  have bm : (0 : Int) ≤ σ 17 0 ∧ σ 17 0 ≤ (60 : Int) := mb_nm hB
  have br : (0 : Int) ≤ σ 5 0 ∧ σ 5 0 ≤ (8 : Int) := mb_nr hB
  refine v_aload_n F (pc := 0) dX5_roomByCounting_0 rfl ?_
  have J_1 : VE pX l eX ({ frames := 4, cells := 0, slots := 0, locals := 94 }) sX mX ([.ref (P 0), .int (iI (n)), .int (iI (p)), .int (iI (w)), .int (iI (c))] : List Value).toArray bX tX cX 9 g AX (mheap g P σ) 0 0 17 [some (.ref (P 0)), some (.int (iI (n))), some (.int (iI (p))), some (.int (iI (w))), some (.int (iI (c))), none, none, none, none] [.int (iI (c01 (m_kind n p w c))), .ref (P 0)] (pV (some (.int (iI (rc_a σ n p w c)))) (mheap g P (su σ 0 0 (c01 (m_kind n p w c))))) (noX) 0 0 := by
    have rc := c01_rng (m_kind n p w c)
    refine v_callVp F (pc := 17) (As := [.int (iI (c01 (m_kind n p w c)))]) (rest := []) ci_X5_84 ct_X5_isFine cs_X5_isFine (k_X5_isFine l g hP hB (c01 (m_kind n p w c)) (by omega)) dX5_roomByCounting_17 (k0 := 8) rfl rfl (mh_0 hP) rfl rfl (Nat.le_of_ble_eq_true rfl) (Nat.le_of_ble_eq_true rfl) (Nat.le_of_ble_eq_true rfl) (Nat.le_of_ble_eq_true rfl) (Nat.le_of_ble_eq_true rfl) ?_ (fun _ _ z => z.elim)
    have hB_2 : MB (su σ 0 0 (c01 (m_kind n p w c))) := mb_su hB (show (0 : Int) ≤ c01 (m_kind n p w c) ∧ c01 (m_kind n p w c) ≤ (3 : Int) from by omega)
    refine v_if_neB F (pc := 20) (b := (decide (c01 (m_kind n p w c) = 0))) 25 dX5_roomByCounting_20 (by decide) (fun c_3 => ?_) (fun c_3 => ?_)
    · have c0 := of_decide_eq_true c_3
      have f0 := kind_iff.mp (c01_0 c0)
      refine v_iconst F (pc := 25) dX5_roomByCounting_25 ?_
      refine v_istore F (pc := 26) (lo' := [some (.ref (P 0)), some (.int (iI (n))), some (.int (iI (p))), some (.int (iI (w))), some (.int (iI (c))), some (.int (iI (0))), none, none, none]) dX5_roomByCounting_26 (Nat.le_of_ble_eq_true rfl) rfl ?_
      refine v_iconst F (pc := 28) dX5_roomByCounting_28 ?_
      refine v_istore F (pc := 29) (lo' := [some (.ref (P 0)), some (.int (iI (n))), some (.int (iI (p))), some (.int (iI (w))), some (.int (iI (c))), some (.int (iI (0))), some (.int (iI (0))), none, none]) dX5_roomByCounting_29 (Nat.le_of_ble_eq_true rfl) rfl ?_
      have LP31 : ∀ (N_ : Nat) (j : Int), (0 ≤ j) → (j ≤ 4) → (4 - j).toNat < N_ → VE pX l eX ({ frames := 4, cells := 0, slots := 0, locals := 94 }) sX mX ([.ref (P 0), .int (iI (n)), .int (iI (p)), .int (iI (w)), .int (iI (c))] : List Value).toArray bX tX cX 9 g AX (mheap g P (su σ 0 0 (c01 (m_kind n p w c)))) 0 0 31 [some (.ref (P 0)), some (.int (iI (n))), some (.int (iI (p))), some (.int (iI (w))), some (.int (iI (c))), some (.int (iI (sm (rc_row σ n p w c) j))), some (.int (iI (j))), none, none] [] (pV (some (.int (iI (rc_a σ n p w c)))) (mheap g P (su σ 0 0 (c01 (m_kind n p w c))))) (noX) 0 0 := by
        intro N_
        induction N_ with
        | zero => intro j _ _ hm_; exact absurd hm_ (Nat.not_lt_zero _)
        | succ N_ ih =>
          intro j hj0 hj1 hm_
          have ih31 := ih
          have rj := rc_rows_rng hB hL (n := n) (p := p) (w := w) (c := c) (by omega) (by omega) hj0 hj1
          have lj := fun q : j < 4 => hL.2.1 j hj0 q
          refine v_iload F (pc := 31) dX5_roomByCounting_31 rfl ?_
          refine v_iconst F (pc := 33) dX5_roomByCounting_33 ?_
          refine v_icmp_ge F (pc := 34) (a := j) (b := 4) 143 dX5_roomByCounting_34 (by decide) (by omega) (by omega) (fun c_4 => ?_) (fun c_4 => ?_)
          · rw [show j = 4 by omega]
            have r4 := rc_rows_rng hB hL (n := n) (p := p) (w := w) (c := c) (by omega) (by omega) (show (0 : Int) ≤ 4 by decide) (Int.le_refl _)
            have lf0 := hL.2.2.1
            have lf1 := hL.2.2.2
            refine v_iconst F (pc := 143) dX5_roomByCounting_143 ?_
            refine v_istore F (pc := 144) (lo' := [some (.ref (P 0)), some (.int (iI (n))), some (.int (iI (p))), some (.int (iI (w))), some (.int (iI (c))), some (.int (iI (sm (rc_row σ n p w c) 4))), some (.int (iI (0))), none, none]) dX5_roomByCounting_144 (Nat.le_of_ble_eq_true rfl) rfl ?_
            refine v_iload F (pc := 146) dX5_roomByCounting_146 rfl ?_
            refine v_iconst F (pc := 148) dX5_roomByCounting_148 ?_
            refine v_icmp_ge F (pc := 149) (a := 0) (b := 2) 196 dX5_roomByCounting_149 (by decide) (by omega) (by omega) (fun c_5 => ?_) (fun c_5 => ?_)
            · exact absurd c_5 (by decide)
            · have J_6 : VE pX l eX ({ frames := 4, cells := 0, slots := 0, locals := 94 }) sX mX ([.ref (P 0), .int (iI (n)), .int (iI (p)), .int (iI (w)), .int (iI (c))] : List Value).toArray bX tX cX 9 g AX (mheap g P (su σ 0 0 (c01 (m_kind n p w c)))) 0 0 188 [some (.ref (P 0)), some (.int (iI (n))), some (.int (iI (p))), some (.int (iI (w))), some (.int (iI (c))), some (.int (iI (sm (rc_row σ n p w c) 4))), some (.int (iI (0))), none, none] [.int (iI (rc_f σ p c 0 (sm (rc_row σ n p w c) 4)))] (pV (some (.int (iI (rc_a σ n p w c)))) (mheap g P (su σ 0 0 (c01 (m_kind n p w c))))) (noX) 0 0 := by
                have rf_7 := rc_f_rng (σ := σ) p c 0 (a := sm (rc_row σ n p w c) 4) (by omega) (by omega) (by omega)
                refine v_istore F (pc := 188) (lo' := [some (.ref (P 0)), some (.int (iI (n))), some (.int (iI (p))), some (.int (iI (w))), some (.int (iI (c))), some (.int (iI (rc_f σ p c 0 (sm (rc_row σ n p w c) 4)))), some (.int (iI (0))), none, none]) dX5_roomByCounting_188 (Nat.le_of_ble_eq_true rfl) rfl ?_
                refine v_iinc F (pc := 190) (lo' := [some (.ref (P 0)), some (.int (iI (n))), some (.int (iI (p))), some (.int (iI (w))), some (.int (iI (c))), some (.int (iI (rc_f σ p c 0 (sm (rc_row σ n p w c) 4)))), some (.int (iI (1))), none, none]) dX5_roomByCounting_190 rfl (Nat.le_of_ble_eq_true rfl) rfl ?_
                refine v_goto F (pc := 193) 146 dX5_roomByCounting_193 (by decide) ?_
                refine v_iload F (pc := 146) dX5_roomByCounting_146 rfl ?_
                refine v_iconst F (pc := 148) dX5_roomByCounting_148 ?_
                refine v_icmp_ge F (pc := 149) (a := 1) (b := 2) 196 dX5_roomByCounting_149 (by decide) (by omega) (by omega) (fun c_8 => ?_) (fun c_8 => ?_)
                · exact absurd c_8 (by decide)
                · have J_9 : VE pX l eX ({ frames := 4, cells := 0, slots := 0, locals := 94 }) sX mX ([.ref (P 0), .int (iI (n)), .int (iI (p)), .int (iI (w)), .int (iI (c))] : List Value).toArray bX tX cX 9 g AX (mheap g P (su σ 0 0 (c01 (m_kind n p w c)))) 0 0 188 [some (.ref (P 0)), some (.int (iI (n))), some (.int (iI (p))), some (.int (iI (w))), some (.int (iI (c))), some (.int (iI (rc_f σ p c 0 (sm (rc_row σ n p w c) 4)))), some (.int (iI (1))), none, none] [.int (iI (rc_f σ p c 1 (rc_f σ p c 0 (sm (rc_row σ n p w c) 4))))] (pV (some (.int (iI (rc_a σ n p w c)))) (mheap g P (su σ 0 0 (c01 (m_kind n p w c))))) (noX) 0 0 := by
                    have rf_10 := rc_f_rng (σ := σ) p c 1 (a := rc_f σ p c 0 (sm (rc_row σ n p w c) 4)) (by omega) (by omega) (by omega)
                    refine v_istore F (pc := 188) (lo' := [some (.ref (P 0)), some (.int (iI (n))), some (.int (iI (p))), some (.int (iI (w))), some (.int (iI (c))), some (.int (iI (rc_f σ p c 1 (rc_f σ p c 0 (sm (rc_row σ n p w c) 4))))), some (.int (iI (1))), none, none]) dX5_roomByCounting_188 (Nat.le_of_ble_eq_true rfl) rfl ?_
                    refine v_iinc F (pc := 190) (lo' := [some (.ref (P 0)), some (.int (iI (n))), some (.int (iI (p))), some (.int (iI (w))), some (.int (iI (c))), some (.int (iI (rc_f σ p c 1 (rc_f σ p c 0 (sm (rc_row σ n p w c) 4))))), some (.int (iI (2))), none, none]) dX5_roomByCounting_190 rfl (Nat.le_of_ble_eq_true rfl) rfl ?_
                    refine v_goto F (pc := 193) 146 dX5_roomByCounting_193 (by decide) ?_
                    refine v_iload F (pc := 146) dX5_roomByCounting_146 rfl ?_
                    refine v_iconst F (pc := 148) dX5_roomByCounting_148 ?_
                    refine v_icmp_ge F (pc := 149) (a := 2) (b := 2) 196 dX5_roomByCounting_149 (by decide) (by omega) (by omega) (fun c_11 => ?_) (fun c_11 => ?_)
                    · refine v_iload F (pc := 196) dX5_roomByCounting_196 rfl ?_
                      refine v_iret F (pc := 198) (z := (iI (rc_f σ p c 1 (rc_f σ p c 0 (sm (rc_row σ n p w c) 4))))) dX5_roomByCounting_198 rfl rfl (Nat.le_of_ble_eq_true rfl) (Nat.le_of_ble_eq_true rfl) ?_
                      exact ⟨by rw [show rc_a σ n p w c = rc_all σ n p w c from if_pos c0]; rfl, rfl⟩
                    · exact absurd c_11 (by decide)
                  refine v_iload F (pc := 152) dX5_roomByCounting_152 rfl ?_
                  refine v_iload F (pc := 154) dX5_roomByCounting_154 rfl ?_
                  refine v_callSp F (pc := 156) (As := [.int (iI (c)), .int (iI (1))]) (rest := []) ci_X5_76 ct_X5_isCorded (k_X5_isCorded l g c 1 (by omega) (by omega)) dX5_roomByCounting_156 rfl rfl (Nat.le_of_ble_eq_true rfl) (Nat.le_of_ble_eq_true rfl) (Nat.le_of_ble_eq_true rfl) (Nat.le_of_ble_eq_true rfl) (Nat.le_of_ble_eq_true rfl) ?_ (fun _ _ z => z.elim)
                  refine v_if_eqB F (pc := 159) (b := (cdd c 1)) 186 dX5_roomByCounting_159 (by decide) (fun c_12 => ?_) (fun c_12 => ?_)
                  · refine v_iload F (pc := 186) dX5_roomByCounting_186 rfl ?_
                    have rf_13 := rc_f_rng (σ := σ) p c 1 (a := rc_f σ p c 0 (sm (rc_row σ n p w c) 4)) (by omega) (by omega) (by omega)
                    exact V.to J_9 rfl rfl (by simp only [rc_f]; simp_all)
                  · refine v_iload F (pc := 162) dX5_roomByCounting_162 rfl ?_
                    refine v_aload_n F (pc := 164) dX5_roomByCounting_164 rfl ?_
                    refine v_getf F (pc := 165) fd_X5_28_8 (v := .ref (P 8)) dX5_roomByCounting_165 (mh_0 hP) rfl ?_
                    refine v_iload F (pc := 168) dX5_roomByCounting_168 rfl ?_
                    refine v_iald F (pc := 170) (n := 2) (f := σ 8) (z := 1) dX5_roomByCounting_170 (mh_8 hP) (by omega) (by decide) ?_
                    have b_14 : (0 : Int) ≤ (σ 8) 1 ∧ (σ 8) 1 ≤ (20000 : Int) := hB 8 1 (by omega) (show 1 < (2 : Int) by omega)
                    refine v_aload_n F (pc := 171) dX5_roomByCounting_171 rfl ?_
                    refine v_iconst F (pc := 172) dX5_roomByCounting_172 ?_
                    refine v_iload F (pc := 173) dX5_roomByCounting_173 rfl ?_
                    refine v_callVp F (pc := 175) (As := [.int (iI (-1)), .int (iI (1))]) (rest := [.int (iI ((σ 8) 1)), .int (iI (rc_f σ p c 0 (sm (rc_row σ n p w c) 4)))]) ci_X5_94 ct_X5_worst cs_X5_worst (k_X5_worst l g hP hB_2 (-1) 1 (by omega) (by omega)) dX5_roomByCounting_175 (k0 := 8) rfl rfl (mh_0 hP) rfl rfl (Nat.le_of_ble_eq_true rfl) (Nat.le_of_ble_eq_true rfl) (Nat.le_of_ble_eq_true rfl) (Nat.le_of_ble_eq_true rfl) (Nat.le_of_ble_eq_true rfl) ?_ (fun _ _ z => z.elim)
                    have rg_15 := m_worst_rng hB (-1) 1
                    refine v_isub F (pc := 178) (a := (σ 8) 1) (b := m_worst σ (-1) 1) dX5_roomByCounting_178 ?_
                    refine v_iload_n F (pc := 179) dX5_roomByCounting_179 rfl ?_
                    refine v_callSp F (pc := 180) (As := [.int (iI (rc_f σ p c 0 (sm (rc_row σ n p w c) 4))), .int (iI (((σ 8) 1) - (m_worst σ (-1) 1))), .int (iI (p))]) (rest := []) ci_X5_143 ct_X5_within (k_X5_within l g (rc_f σ p c 0 (sm (rc_row σ n p w c) 4)) (((σ 8) 1) - (m_worst σ (-1) 1)) p (by omega) (by omega) (by omega) (mul_rng (by omega) (by omega))) dX5_roomByCounting_180 rfl rfl (Nat.le_of_ble_eq_true rfl) (Nat.le_of_ble_eq_true rfl) (Nat.le_of_ble_eq_true rfl) (Nat.le_of_ble_eq_true rfl) (Nat.le_of_ble_eq_true rfl) ?_ (fun _ _ z => z.elim)
                    have rg_16 := m_wi_rng (m := rc_f σ p c 0 (sm (rc_row σ n p w c) 4)) (q := ((σ 8) 1) - (m_worst σ (-1) 1)) (u := p) (by omega) (by omega) (by omega)
                    refine v_goto F (pc := 183) 188 dX5_roomByCounting_183 (by decide) ?_
                    have rf_17 := rc_f_rng (σ := σ) p c 1 (a := rc_f σ p c 0 (sm (rc_row σ n p w c) 4)) (by omega) (by omega) (by omega)
                    exact V.to J_9 rfl rfl (by simp only [rc_f]; simp_all)
              refine v_iload F (pc := 152) dX5_roomByCounting_152 rfl ?_
              refine v_iload F (pc := 154) dX5_roomByCounting_154 rfl ?_
              refine v_callSp F (pc := 156) (As := [.int (iI (c)), .int (iI (0))]) (rest := []) ci_X5_76 ct_X5_isCorded (k_X5_isCorded l g c 0 (by omega) (by omega)) dX5_roomByCounting_156 rfl rfl (Nat.le_of_ble_eq_true rfl) (Nat.le_of_ble_eq_true rfl) (Nat.le_of_ble_eq_true rfl) (Nat.le_of_ble_eq_true rfl) (Nat.le_of_ble_eq_true rfl) ?_ (fun _ _ z => z.elim)
              refine v_if_eqB F (pc := 159) (b := (cdd c 0)) 186 dX5_roomByCounting_159 (by decide) (fun c_18 => ?_) (fun c_18 => ?_)
              · refine v_iload F (pc := 186) dX5_roomByCounting_186 rfl ?_
                have rf_19 := rc_f_rng (σ := σ) p c 0 (a := sm (rc_row σ n p w c) 4) (by omega) (by omega) (by omega)
                exact V.to J_6 rfl rfl (by simp only [rc_f]; simp_all)
              · refine v_iload F (pc := 162) dX5_roomByCounting_162 rfl ?_
                refine v_aload_n F (pc := 164) dX5_roomByCounting_164 rfl ?_
                refine v_getf F (pc := 165) fd_X5_28_8 (v := .ref (P 8)) dX5_roomByCounting_165 (mh_0 hP) rfl ?_
                refine v_iload F (pc := 168) dX5_roomByCounting_168 rfl ?_
                refine v_iald F (pc := 170) (n := 2) (f := σ 8) (z := 0) dX5_roomByCounting_170 (mh_8 hP) (by omega) (by decide) ?_
                have b_20 : (0 : Int) ≤ (σ 8) 0 ∧ (σ 8) 0 ≤ (20000 : Int) := hB 8 0 (by decide) (by decide)
                refine v_aload_n F (pc := 171) dX5_roomByCounting_171 rfl ?_
                refine v_iconst F (pc := 172) dX5_roomByCounting_172 ?_
                refine v_iload F (pc := 173) dX5_roomByCounting_173 rfl ?_
                refine v_callVp F (pc := 175) (As := [.int (iI (-1)), .int (iI (0))]) (rest := [.int (iI ((σ 8) 0)), .int (iI (sm (rc_row σ n p w c) 4))]) ci_X5_94 ct_X5_worst cs_X5_worst (k_X5_worst l g hP hB_2 (-1) 0 (by omega) (by omega)) dX5_roomByCounting_175 (k0 := 8) rfl rfl (mh_0 hP) rfl rfl (Nat.le_of_ble_eq_true rfl) (Nat.le_of_ble_eq_true rfl) (Nat.le_of_ble_eq_true rfl) (Nat.le_of_ble_eq_true rfl) (Nat.le_of_ble_eq_true rfl) ?_ (fun _ _ z => z.elim)
                have rg_21 := m_worst_rng hB (-1) 0
                refine v_isub F (pc := 178) (a := (σ 8) 0) (b := m_worst σ (-1) 0) dX5_roomByCounting_178 ?_
                refine v_iload_n F (pc := 179) dX5_roomByCounting_179 rfl ?_
                refine v_callSp F (pc := 180) (As := [.int (iI (sm (rc_row σ n p w c) 4)), .int (iI (((σ 8) 0) - (m_worst σ (-1) 0))), .int (iI (p))]) (rest := []) ci_X5_143 ct_X5_within (k_X5_within l g (sm (rc_row σ n p w c) 4) (((σ 8) 0) - (m_worst σ (-1) 0)) p (by omega) (by omega) (by omega) (mul_rng (by omega) (by omega))) dX5_roomByCounting_180 rfl rfl (Nat.le_of_ble_eq_true rfl) (Nat.le_of_ble_eq_true rfl) (Nat.le_of_ble_eq_true rfl) (Nat.le_of_ble_eq_true rfl) (Nat.le_of_ble_eq_true rfl) ?_ (fun _ _ z => z.elim)
                have rg_22 := m_wi_rng (m := sm (rc_row σ n p w c) 4) (q := ((σ 8) 0) - (m_worst σ (-1) 0)) (u := p) (by omega) (by omega) (by omega)
                refine v_goto F (pc := 183) 188 dX5_roomByCounting_183 (by decide) ?_
                have rf_23 := rc_f_rng (σ := σ) p c 0 (a := sm (rc_row σ n p w c) 4) (by omega) (by omega) (by omega)
                exact V.to J_6 rfl rfl (by simp only [rc_f]; simp_all)
          · refine v_iconst F (pc := 37) dX5_roomByCounting_37 ?_
            refine v_istore F (pc := 38) (lo' := [some (.ref (P 0)), some (.int (iI (n))), some (.int (iI (p))), some (.int (iI (w))), some (.int (iI (c))), some (.int (iI (sm (rc_row σ n p w c) j))), some (.int (iI (j))), some (.int (iI (0))), none]) dX5_roomByCounting_38 (Nat.le_of_ble_eq_true rfl) rfl ?_
            refine v_iconst F (pc := 40) dX5_roomByCounting_40 ?_
            refine v_istore F (pc := 41) (lo' := [some (.ref (P 0)), some (.int (iI (n))), some (.int (iI (p))), some (.int (iI (w))), some (.int (iI (c))), some (.int (iI (sm (rc_row σ n p w c) j))), some (.int (iI (j))), some (.int (iI (0))), some (.int (iI (0)))]) dX5_roomByCounting_41 (Nat.le_of_ble_eq_true rfl) rfl ?_
            have LP43 : ∀ (N_ : Nat) (k : Int), (0 ≤ k) → (k ≤ (σ 5 0)) → ((σ 5 0) - k).toNat < N_ → VE pX l eX ({ frames := 4, cells := 0, slots := 0, locals := 94 }) sX mX ([.ref (P 0), .int (iI (n)), .int (iI (p)), .int (iI (w)), .int (iI (c))] : List Value).toArray bX tX cX 9 g AX (mheap g P (su σ 0 0 (c01 (m_kind n p w c)))) 0 0 43 [some (.ref (P 0)), some (.int (iI (n))), some (.int (iI (p))), some (.int (iI (w))), some (.int (iI (c))), some (.int (iI (sm (rc_row σ n p w c) j))), some (.int (iI (j))), some (.int (iI (sm (rc_t σ n p w c j) k))), some (.int (iI (k)))] [] (pV (some (.int (iI (rc_a σ n p w c)))) (mheap g P (su σ 0 0 (c01 (m_kind n p w c))))) (noX) 0 0 := by
              intro N_
              induction N_ with
              | zero => intro k _ _ hm_; exact absurd hm_ (Nat.not_lt_zero _)
              | succ N_ ih =>
                intro k hk0 hk1 hm_
                have rk := rc_sum_rng hB hL (n := n) (p := p) (w := w) (c := c) (by omega) (by omega) j hk0 hk1
                refine v_iload F (pc := 43) dX5_roomByCounting_43 rfl ?_
                refine v_aload_n F (pc := 45) dX5_roomByCounting_45 rfl ?_
                refine v_getf F (pc := 46) fd_X5_66_8 (v := .int (iI (σ 5 0))) dX5_roomByCounting_46 (mh_0 hP) rfl ?_
                have b_24 : (0 : Int) ≤ σ 5 0 ∧ σ 5 0 ≤ (8 : Int) := hB 5 0 (by decide) (by decide)
                refine v_icmp_ge F (pc := 49) (a := k) (b := σ 5 0) 90 dX5_roomByCounting_49 (by decide) (by omega) (by omega) (fun c_25 => ?_) (fun c_25 => ?_)
                · have lj2 := lj (by omega)
                  have rk2 := rc_sum_rng hB hL (n := n) (p := p) (w := w) (c := c) (by omega) (by omega) j br.1 (Int.le_refl _)
                  rw [show k = σ 5 0 by omega]
                  refine v_iload F (pc := 90) dX5_roomByCounting_90 rfl ?_
                  refine v_aload_n F (pc := 92) dX5_roomByCounting_92 rfl ?_
                  refine v_getf F (pc := 93) fd_X5_25_8 (v := .ref (P 7)) dX5_roomByCounting_93 (mh_0 hP) rfl ?_
                  refine v_iload F (pc := 96) dX5_roomByCounting_96 rfl ?_
                  refine v_iald F (pc := 98) (n := 4) (f := σ 7) (z := j) dX5_roomByCounting_98 (mh_7 hP) (by omega) (by decide) ?_
                  have b_26 : (0 : Int) ≤ (σ 7) j ∧ (σ 7) j ≤ (10000 : Int) := hB 7 j (by omega) (show j < (4 : Int) by omega)
                  refine v_aload_n F (pc := 99) dX5_roomByCounting_99 rfl ?_
                  refine v_iload F (pc := 100) dX5_roomByCounting_100 rfl ?_
                  refine v_callVp F (pc := 102) (As := [.int (iI (j))]) (rest := [.int (iI ((σ 7) j)), .int (iI (sm (rc_t σ n p w c j) (σ 5 0)))]) ci_X5_91 ct_X5_rowWeighs cs_X5_rowWeighs (k_X5_rowWeighs l g hP hB_2 j (by omega)) dX5_roomByCounting_102 (k0 := 8) rfl rfl (mh_0 hP) rfl rfl (Nat.le_of_ble_eq_true rfl) (Nat.le_of_ble_eq_true rfl) (Nat.le_of_ble_eq_true rfl) (Nat.le_of_ble_eq_true rfl) (Nat.le_of_ble_eq_true rfl) ?_ (fun _ _ z => z.elim)
                  have rg_27 := m_rowWeighs_rng hB j
                  refine v_isub F (pc := 105) (a := (σ 7) j) (b := m_rowWeighs σ j) dX5_roomByCounting_105 ?_
                  refine v_iload_n F (pc := 106) dX5_roomByCounting_106 rfl ?_
                  refine v_callSp F (pc := 107) (As := [.int (iI (sm (rc_t σ n p w c j) (σ 5 0))), .int (iI (((σ 7) j) - (m_rowWeighs σ j))), .int (iI (w))]) (rest := []) ci_X5_143 ct_X5_within (k_X5_within l g (sm (rc_t σ n p w c j) (σ 5 0)) (((σ 7) j) - (m_rowWeighs σ j)) w (by omega) (by omega) (by omega) (mul_rng (by omega) (by omega))) dX5_roomByCounting_107 rfl rfl (Nat.le_of_ble_eq_true rfl) (Nat.le_of_ble_eq_true rfl) (Nat.le_of_ble_eq_true rfl) (Nat.le_of_ble_eq_true rfl) (Nat.le_of_ble_eq_true rfl) ?_ (fun _ _ z => z.elim)
                  have rg_28 := m_wi_rng (m := sm (rc_t σ n p w c j) (σ 5 0)) (q := ((σ 7) j) - (m_rowWeighs σ j)) (u := w) (by omega) (by omega) (by omega)
                  refine v_istore F (pc := 110) (lo' := [some (.ref (P 0)), some (.int (iI (n))), some (.int (iI (p))), some (.int (iI (w))), some (.int (iI (c))), some (.int (iI (sm (rc_row σ n p w c) j))), some (.int (iI (j))), some (.int (iI (m_wi (sm (rc_t σ n p w c j) (σ 5 0)) (((σ 7) j) - (m_rowWeighs σ j)) w))), some (.int (iI (σ 5 0)))]) dX5_roomByCounting_110 (Nat.le_of_ble_eq_true rfl) rfl ?_
                  refine v_iload F (pc := 112) dX5_roomByCounting_112 rfl ?_
                  refine v_iload F (pc := 114) dX5_roomByCounting_114 rfl ?_
                  refine v_aload_n F (pc := 116) dX5_roomByCounting_116 rfl ?_
                  refine v_getf F (pc := 117) fd_X5_22_8 (v := .ref (P 6)) dX5_roomByCounting_117 (mh_0 hP) rfl ?_
                  refine v_iload F (pc := 120) dX5_roomByCounting_120 rfl ?_
                  refine v_iald F (pc := 122) (n := 4) (f := σ 6) (z := j) dX5_roomByCounting_122 (mh_6 hP) (by omega) (by decide) ?_
                  have b_29 : (0 : Int) ≤ (σ 6) j ∧ (σ 6) j ≤ (10000 : Int) := hB 6 j (by omega) (show j < (4 : Int) by omega)
                  refine v_aload_n F (pc := 123) dX5_roomByCounting_123 rfl ?_
                  refine v_iload F (pc := 124) dX5_roomByCounting_124 rfl ?_
                  refine v_callVp F (pc := 126) (As := [.int (iI (j))]) (rest := [.int (iI ((σ 6) j)), .int (iI (m_wi (sm (rc_t σ n p w c j) (σ 5 0)) (((σ 7) j) - (m_rowWeighs σ j)) w)), .int (iI (sm (rc_row σ n p w c) j))]) ci_X5_88 ct_X5_rowHeats cs_X5_rowHeats (k_X5_rowHeats l g hP hB_2 j (by omega)) dX5_roomByCounting_126 (k0 := 8) rfl rfl (mh_0 hP) rfl rfl (Nat.le_of_ble_eq_true rfl) (Nat.le_of_ble_eq_true rfl) (Nat.le_of_ble_eq_true rfl) (Nat.le_of_ble_eq_true rfl) (Nat.le_of_ble_eq_true rfl) ?_ (fun _ _ z => z.elim)
                  have rg_30 := m_rowHeats_rng hB j
                  refine v_isub F (pc := 129) (a := (σ 6) j) (b := m_rowHeats σ j) dX5_roomByCounting_129 ?_
                  refine v_iload_n F (pc := 130) dX5_roomByCounting_130 rfl ?_
                  refine v_callSp F (pc := 131) (As := [.int (iI (m_wi (sm (rc_t σ n p w c j) (σ 5 0)) (((σ 7) j) - (m_rowWeighs σ j)) w)), .int (iI (((σ 6) j) - (m_rowHeats σ j))), .int (iI (p))]) (rest := [.int (iI (sm (rc_row σ n p w c) j))]) ci_X5_143 ct_X5_within (k_X5_within l g (m_wi (sm (rc_t σ n p w c j) (σ 5 0)) (((σ 7) j) - (m_rowWeighs σ j)) w) (((σ 6) j) - (m_rowHeats σ j)) p (by omega) (by omega) (by omega) (mul_rng (by omega) (by omega))) dX5_roomByCounting_131 rfl rfl (Nat.le_of_ble_eq_true rfl) (Nat.le_of_ble_eq_true rfl) (Nat.le_of_ble_eq_true rfl) (Nat.le_of_ble_eq_true rfl) (Nat.le_of_ble_eq_true rfl) ?_ (fun _ _ z => z.elim)
                  have rg_31 := m_wi_rng (m := m_wi (sm (rc_t σ n p w c j) (σ 5 0)) (((σ 7) j) - (m_rowWeighs σ j)) w) (q := ((σ 6) j) - (m_rowHeats σ j)) (u := p) (by omega) (by omega) (by omega)
                  refine v_iadd F (pc := 134) (a := sm (rc_row σ n p w c) j) (b := m_wi (m_wi (sm (rc_t σ n p w c j) (σ 5 0)) (((σ 7) j) - (m_rowWeighs σ j)) w) (((σ 6) j) - (m_rowHeats σ j)) p) dX5_roomByCounting_134 ?_
                  refine v_istore F (pc := 135) (lo' := [some (.ref (P 0)), some (.int (iI (n))), some (.int (iI (p))), some (.int (iI (w))), some (.int (iI (c))), some (.int (iI ((sm (rc_row σ n p w c) j) + (m_wi (m_wi (sm (rc_t σ n p w c j) (σ 5 0)) (((σ 7) j) - (m_rowWeighs σ j)) w) (((σ 6) j) - (m_rowHeats σ j)) p)))), some (.int (iI (j))), some (.int (iI (m_wi (sm (rc_t σ n p w c j) (σ 5 0)) (((σ 7) j) - (m_rowWeighs σ j)) w))), some (.int (iI (σ 5 0)))]) dX5_roomByCounting_135 (Nat.le_of_ble_eq_true rfl) rfl ?_
                  refine v_iinc F (pc := 137) (lo' := [some (.ref (P 0)), some (.int (iI (n))), some (.int (iI (p))), some (.int (iI (w))), some (.int (iI (c))), some (.int (iI ((sm (rc_row σ n p w c) j) + (m_wi (m_wi (sm (rc_t σ n p w c j) (σ 5 0)) (((σ 7) j) - (m_rowWeighs σ j)) w) (((σ 6) j) - (m_rowHeats σ j)) p)))), some (.int (iI (j + 1))), some (.int (iI (m_wi (sm (rc_t σ n p w c j) (σ 5 0)) (((σ 7) j) - (m_rowWeighs σ j)) w))), some (.int (iI (σ 5 0)))]) dX5_roomByCounting_137 rfl (Nat.le_of_ble_eq_true rfl) rfl ?_
                  refine v_goto F (pc := 140) 31 dX5_roomByCounting_140 (by decide) ?_
                  have e_ : sm (rc_row σ n p w c) (j + 1) = (sm (rc_row σ n p w c) j) + (m_wi (m_wi (sm (rc_t σ n p w c j) (σ 5 0)) (((σ 7) j) - (m_rowWeighs σ j)) w) (((σ 6) j) - (m_rowHeats σ j)) p) := by rw [sm_s _ hj0]; rfl
                  have ih2 := ih31 (j + 1) (by omega) (by omega) (by omega)
                  rw [e_] at ih2
                  exact V.fg (ih2) ⟨rfl, ⟨rfl, ⟨rfl, ⟨rfl, ⟨rfl, ⟨rfl, ⟨rfl, trivial⟩⟩⟩⟩⟩⟩⟩
                · refine v_iload F (pc := 52) dX5_roomByCounting_52 rfl ?_
                  refine v_aload_n F (pc := 54) dX5_roomByCounting_54 rfl ?_
                  refine v_getf F (pc := 55) fd_X5_7_8 (v := .ref (P 1)) dX5_roomByCounting_55 (mh_0 hP) rfl ?_
                  refine v_iload F (pc := 58) dX5_roomByCounting_58 rfl ?_
                  refine v_iald F (pc := 60) (n := 8) (f := σ 1) (z := k) dX5_roomByCounting_60 (mh_1 hP) (by omega) (by decide) ?_
                  have b_32 : (0 : Int) ≤ (σ 1) k ∧ (σ 1) k ≤ (3 : Int) := hB 1 k (by omega) (show k < (8 : Int) by omega)
                  refine v_iload F (pc := 61) dX5_roomByCounting_61 rfl ?_
                  refine v_icmp_ne F (pc := 63) (a := (σ 1) k) (b := j) 80 dX5_roomByCounting_63 (by decide) (by omega) (by omega) (fun c_33 => ?_) (fun c_33 => ?_)
                  · refine v_iconst F (pc := 80) dX5_roomByCounting_80 ?_
                    refine v_iadd F (pc := 81) (a := sm (rc_t σ n p w c j) k) (b := 0) dX5_roomByCounting_81 ?_
                    refine v_istore F (pc := 82) (lo' := [some (.ref (P 0)), some (.int (iI (n))), some (.int (iI (p))), some (.int (iI (w))), some (.int (iI (c))), some (.int (iI (sm (rc_row σ n p w c) j))), some (.int (iI (j))), some (.int (iI ((sm (rc_t σ n p w c j) k) + 0))), some (.int (iI (k)))]) dX5_roomByCounting_82 (Nat.le_of_ble_eq_true rfl) rfl ?_
                    refine v_iinc F (pc := 84) (lo' := [some (.ref (P 0)), some (.int (iI (n))), some (.int (iI (p))), some (.int (iI (w))), some (.int (iI (c))), some (.int (iI (sm (rc_row σ n p w c) j))), some (.int (iI (j))), some (.int (iI ((sm (rc_t σ n p w c j) k) + 0))), some (.int (iI (k + 1)))]) dX5_roomByCounting_84 rfl (Nat.le_of_ble_eq_true rfl) rfl ?_
                    refine v_goto F (pc := 87) 43 dX5_roomByCounting_87 (by decide) ?_
                    have e_ : sm (rc_t σ n p w c j) (k + 1) = (sm (rc_t σ n p w c j) k) + 0 := by rw [sm_s _ hk0]; exact congrArg (fun z => sm (rc_t σ n p w c j) k + z) (show (rc_t σ n p w c j) k = 0 by simp only [rc_t]; split <;> first | omega | simp_all)
                    have ih2 := ih (k + 1) (by omega) (by omega) (by omega)
                    rw [e_] at ih2
                    exact ih2
                  · refine v_aload_n F (pc := 66) dX5_roomByCounting_66 rfl ?_
                    refine v_iload F (pc := 67) dX5_roomByCounting_67 rfl ?_
                    refine v_iload_n F (pc := 69) dX5_roomByCounting_69 rfl ?_
                    refine v_iload_n F (pc := 70) dX5_roomByCounting_70 rfl ?_
                    refine v_iload_n F (pc := 71) dX5_roomByCounting_71 rfl ?_
                    refine v_iload F (pc := 72) dX5_roomByCounting_72 rfl ?_
                    have t_34 := k_X5_roomIn l g hP hB_2 k n p w c (by omega) (by omega) (by omega) (by omega) (by omega) (hL.1 _ (by omega) (by omega))
                    rw [m_roomIn_0] at t_34
                    refine v_callVp F (pc := 74) (As := [.int (iI (k)), .int (iI (n)), .int (iI (p)), .int (iI (w)), .int (iI (c))]) (rest := [.int (iI (sm (rc_t σ n p w c j) k))]) ci_X5_147 ct_X5_roomIn cs_X5_roomIn t_34 dX5_roomByCounting_74 (k0 := 8) rfl rfl (mh_0 hP) rfl rfl (Nat.le_of_ble_eq_true rfl) (Nat.le_of_ble_eq_true rfl) (Nat.le_of_ble_eq_true rfl) (Nat.le_of_ble_eq_true rfl) (Nat.le_of_ble_eq_true rfl) ?_ (fun _ _ z => z.elim)
                    have rg_35 := m_roomIn_rng hB (n := n) (c := c) (r := k) (p := p) (w := w) (by omega) (by omega) (by omega) (hL.1 _ (by omega) (by omega))
                    refine v_goto F (pc := 77) 81 dX5_roomByCounting_77 (by decide) ?_
                    refine v_iadd F (pc := 81) (a := sm (rc_t σ n p w c j) k) (b := m_roomIn σ k n p w c) dX5_roomByCounting_81 ?_
                    refine v_istore F (pc := 82) (lo' := [some (.ref (P 0)), some (.int (iI (n))), some (.int (iI (p))), some (.int (iI (w))), some (.int (iI (c))), some (.int (iI (sm (rc_row σ n p w c) j))), some (.int (iI (j))), some (.int (iI ((sm (rc_t σ n p w c j) k) + (m_roomIn σ k n p w c)))), some (.int (iI (k)))]) dX5_roomByCounting_82 (Nat.le_of_ble_eq_true rfl) rfl ?_
                    refine v_iinc F (pc := 84) (lo' := [some (.ref (P 0)), some (.int (iI (n))), some (.int (iI (p))), some (.int (iI (w))), some (.int (iI (c))), some (.int (iI (sm (rc_row σ n p w c) j))), some (.int (iI (j))), some (.int (iI ((sm (rc_t σ n p w c j) k) + (m_roomIn σ k n p w c)))), some (.int (iI (k + 1)))]) dX5_roomByCounting_84 rfl (Nat.le_of_ble_eq_true rfl) rfl ?_
                    refine v_goto F (pc := 87) 43 dX5_roomByCounting_87 (by decide) ?_
                    have e_ : sm (rc_t σ n p w c j) (k + 1) = (sm (rc_t σ n p w c j) k) + (m_roomIn σ k n p w c) := by rw [sm_s _ hk0]; exact congrArg (fun z => sm (rc_t σ n p w c j) k + z) (show (rc_t σ n p w c j) k = (m_roomIn σ k n p w c) by simp only [rc_t]; split <;> first | omega | simp_all)
                    have ih2 := ih (k + 1) (by omega) (by omega) (by omega)
                    rw [e_] at ih2
                    exact ih2
            exact LP43 _ 0 (Int.le_refl 0) (by omega) (Nat.lt_succ_self _)
      exact V.fg (LP31 _ 0 (Int.le_refl 0) (by omega) (Nat.lt_succ_self _)) ⟨rfl, ⟨rfl, ⟨rfl, ⟨rfl, ⟨rfl, ⟨rfl, ⟨rfl, trivial⟩⟩⟩⟩⟩⟩⟩
    · have c1 := of_decide_eq_false c_3
      refine v_iconst F (pc := 23) dX5_roomByCounting_23 ?_
      refine v_iret F (pc := 24) (z := (iI (0))) dX5_roomByCounting_24 rfl rfl (Nat.le_of_ble_eq_true rfl) (Nat.le_of_ble_eq_true rfl) ?_
      exact ⟨by rw [show rc_a σ n p w c = 0 from if_neg c1], rfl⟩
  refine v_iload_n F (pc := 1) dX5_roomByCounting_1 rfl ?_
  refine v_iload_n F (pc := 2) dX5_roomByCounting_2 rfl ?_
  refine v_iload_n F (pc := 3) dX5_roomByCounting_3 rfl ?_
  refine v_iload F (pc := 4) dX5_roomByCounting_4 rfl ?_
  refine v_callSp F (pc := 6) (As := [.int (iI (n)), .int (iI (p)), .int (iI (w)), .int (iI (c))]) (rest := [.ref (P 0)]) ci_X5_115 ct_X5_isKind (k_X5_isKind l g n p w c (by omega) (by omega) (by omega) (by omega)) dX5_roomByCounting_6 rfl rfl (Nat.le_of_ble_eq_true rfl) (Nat.le_of_ble_eq_true rfl) (Nat.le_of_ble_eq_true rfl) (Nat.le_of_ble_eq_true rfl) (Nat.le_of_ble_eq_true rfl) ?_ (fun _ _ z => z.elim)
  refine v_if_eqB F (pc := 9) (b := (m_kind n p w c)) 16 dX5_roomByCounting_9 (by decide) (fun c_36 => ?_) (fun c_36 => ?_)
  · refine v_iconst F (pc := 16) dX5_roomByCounting_16 ?_
    have rc := c01_rng (m_kind n p w c)
    exact V.to J_1 rfl rfl (by exact congrArg (fun z => Value.int (iI z) :: [.ref (P 0)]) (show (1 : Int) = c01 (m_kind n p w c) by simp only [c01]; (repeat' split) <;> first | rfl | omega | (exfalso; omega) | simp_all))
  · refine v_iconst F (pc := 12) dX5_roomByCounting_12 ?_
    refine v_goto F (pc := 13) 17 dX5_roomByCounting_13 (by decide) ?_
    have rc := c01_rng (m_kind n p w c)
    exact V.to J_1 rfl rfl (by exact congrArg (fun z => Value.int (iI z) :: [.ref (P 0)]) (show (0 : Int) = c01 (m_kind n p w c) by simp only [c01]; (repeat' split) <;> first | rfl | omega | (exfalso; omega) | simp_all))
-- X5_roomFor
set_option maxRecDepth 100000 in
set_option maxHeartbeats 8000000 in
theorem k_X5_roomFor (l : Launch) (g : gT) {P : Nat → Nat} {σ : sT} (hP : mok P) (hB : MB σ) (n p w c : Int) (hn : -2147483648 ≤ n ∧ n ≤ 2147483647) (hp : -2147483648 ≤ p ∧ p ≤ 2147483647) (hw : -2147483648 ≤ w ∧ w ≤ 2147483647) (hc : -2147483648 ≤ c ∧ c ≤ 2147483647) (hL : ML σ) : CM l g yX5_roomFor cX5_roomFor 5 (some .int) ({ frames := 5, cells := 0, slots := 0, locals := 122 }) [.ref (P 0), .int (iI (n)), .int (iI (p)), .int (iI (w)), .int (iI (c))] (mheap g P σ) (pV (some (.int (iI (rc_a σ n p w c)))) (mheap g P (su σ 0 0 (c01 (m_kind n p w c))))) (noX) := by
  refine CM.of (lo := [some (.ref (P 0)), some (.int (iI (n))), some (.int (iI (p))), some (.int (iI (w))), some (.int (iI (c)))]) (by decide) (Nat.le_of_ble_eq_true rfl) (by simp [Value.category]) rfl ?_
  intro pX eX sX mX bX tX cX AX F htab hmn
  have F : Fx pX l sX mX ([.ref (P 0), .int (iI (n)), .int (iI (p)), .int (iI (w)), .int (iI (c))] : List Value).toArray tX cX cX5_roomFor 5 (some .int) RX5 g AX := F
  refine v_aload_n F (pc := 0) dX5_roomFor_0 rfl ?_
  refine v_iload_n F (pc := 1) dX5_roomFor_1 rfl ?_
  refine v_iload_n F (pc := 2) dX5_roomFor_2 rfl ?_
  refine v_iload_n F (pc := 3) dX5_roomFor_3 rfl ?_
  refine v_iload F (pc := 4) dX5_roomFor_4 rfl ?_
  refine v_callVp F (pc := 6) (As := [.int (iI (n)), .int (iI (p)), .int (iI (w)), .int (iI (c))]) (rest := []) ci_X5_150 ct_X5_roomByCounting cs_X5_roomByCounting (k_X5_roomByCounting l g hP hB n p w c hn hp hw hc hL) dX5_roomFor_6 (k0 := 8) rfl rfl (mh_0 hP) rfl rfl (Nat.le_of_ble_eq_true rfl) (Nat.le_of_ble_eq_true rfl) (Nat.le_of_ble_eq_true rfl) (Nat.le_of_ble_eq_true rfl) (Nat.le_of_ble_eq_true rfl) ?_ (fun _ _ z => z.elim)
  refine v_iret F (pc := 9) (z := (iI (rc_a σ n p w c))) dX5_roomFor_9 rfl rfl (Nat.le_of_ble_eq_true rfl) (Nat.le_of_ble_eq_true rfl) ?_
  exact ⟨rfl, rfl⟩
