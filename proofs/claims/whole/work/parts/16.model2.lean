-- X5_worst
set_option maxRecDepth 100000 in
set_option maxHeartbeats 8000000 in
theorem k_X5_worst (l : Launch) (g : gT) {P : Nat → Nat} {σ : sT} (hP : mok P) (hB : MB σ) (r f : Int) (hr : -2147483648 ≤ r ∧ r ≤ 2147483647) (hf : -2147483648 ≤ f ∧ f ≤ 2147483647) : CM l g yX5_worst cX5_worst 6 (some .int) ({ frames := 2, cells := 0, slots := 0, locals := 41 }) [.ref (P 0), .int (iI (r)), .int (iI (f))] (mheap g P σ) (pV (some (.int (iI (m_worst σ r f)))) (mheap g P σ)) (noX) := by
  refine CM.of (lo := [some (.ref (P 0)), some (.int (iI (r))), some (.int (iI (f))), none, none, none]) (by decide) (Nat.le_of_ble_eq_true rfl) (by simp [Value.category]) rfl ?_
  intro pX eX sX mX bX tX cX AX F htab hmn
  have F : Fx pX l sX mX ([.ref (P 0), .int (iI (r)), .int (iI (f))] : List Value).toArray tX cX cX5_worst 6 (some .int) RX5 g AX := F
  have bm : (0 : Int) ≤ σ 17 0 ∧ σ 17 0 ≤ (60 : Int) := mb_nm hB
  refine v_iconst F (pc := 0) dX5_worst_0 ?_
  refine v_istore_n F (pc := 1) (lo' := [some (.ref (P 0)), some (.int (iI (r))), some (.int (iI (f))), some (.int (iI (0))), none, none]) dX5_worst_1 (Nat.le_of_ble_eq_true rfl) rfl ?_
  refine v_iconst F (pc := 2) dX5_worst_2 ?_
  refine v_istore F (pc := 3) (lo' := [some (.ref (P 0)), some (.int (iI (r))), some (.int (iI (f))), some (.int (iI (0))), some (.int (iI (0))), none]) dX5_worst_3 (Nat.le_of_ble_eq_true rfl) rfl ?_
  have LP5 : ∀ (N_ : Nat) (k : Int), (0 ≤ k) → (k ≤ (σ 17 0)) → ((σ 17 0) - k).toNat < N_ → VE pX l eX ({ frames := 2, cells := 0, slots := 0, locals := 41 }) sX mX ([.ref (P 0), .int (iI (r)), .int (iI (f))] : List Value).toArray bX tX cX 6 g AX (mheap g P σ) 0 0 5 [some (.ref (P 0)), some (.int (iI (r))), some (.int (iI (f))), some (.int (iI (sm (m_wo σ r f) k))), some (.int (iI (k))), none] [] (pV (some (.int (iI (m_worst σ r f)))) (mheap g P σ)) (noX) 0 0 := by
    intro N_
    induction N_ with
    | zero => intro k _ _ hm_; exact absurd hm_ (Nat.not_lt_zero _)
    | succ N_ ih =>
      intro k hk0 hk1 hm_
      refine v_iload F (pc := 5) dX5_worst_5 rfl ?_
      refine v_aload_n F (pc := 7) dX5_worst_7 rfl ?_
      refine v_getf F (pc := 8) fd_X5_73_8 (v := .int (iI (σ 17 0))) dX5_worst_8 (mh_0 hP) rfl ?_
      have b_1 : (0 : Int) ≤ σ 17 0 ∧ σ 17 0 ≤ (60 : Int) := hB 17 0 (by decide) (by decide)
      refine v_icmp_ge F (pc := 11) (a := k) (b := σ 17 0) 87 dX5_worst_11 (by decide) (by omega) (by omega) (fun c_2 => ?_) (fun c_2 => ?_)
      · refine v_iload_n F (pc := 87) dX5_worst_87 rfl ?_
        refine v_iret F (pc := 88) (z := (iI (sm (m_wo σ r f) k))) dX5_worst_88 rfl rfl (Nat.le_of_ble_eq_true rfl) (Nat.le_of_ble_eq_true rfl) ?_
        exact ⟨by rw [show m_worst σ r f = sm (m_wo σ r f) k from by rw [show k = σ 17 0 by omega]; rfl], rfl⟩
      · refine v_aload_n F (pc := 14) dX5_worst_14 rfl ?_
        refine v_getf F (pc := 15) fd_X5_50_8 (v := .ref (P 15)) dX5_worst_15 (mh_0 hP) rfl ?_
        refine v_iload F (pc := 18) dX5_worst_18 rfl ?_
        refine v_iald F (pc := 20) (n := 60) (f := σ 15) (z := k) dX5_worst_20 (mh_15 hP) (by omega) (by decide) ?_
        have b_3 : (-1 : Int) ≤ (σ 15) k ∧ (σ 15) k ≤ (7 : Int) := hB 15 k (by omega) (show k < (60 : Int) by omega)
        refine v_iconst F (pc := 21) dX5_worst_21 ?_
        refine v_icmp_eq F (pc := 22) (a := (σ 15) k) (b := -1) 45 dX5_worst_22 (by decide) (by omega) (by omega) (fun c_4 => ?_) (fun c_4 => ?_)
        · refine v_iconst F (pc := 45) dX5_worst_45 ?_
          refine v_istore F (pc := 46) (lo' := [some (.ref (P 0)), some (.int (iI (r))), some (.int (iI (f))), some (.int (iI (sm (m_wo σ r f) k))), some (.int (iI (k))), some (.int (iI (0)))]) dX5_worst_46 (Nat.le_of_ble_eq_true rfl) rfl ?_
          refine v_iload_n F (pc := 48) dX5_worst_48 rfl ?_
          refine v_iload F (pc := 49) dX5_worst_49 rfl ?_
          refine v_if_eq F (pc := 51) (a := 0) 78 dX5_worst_51 (by decide) (by omega) (fun c_5 => ?_) (fun c_5 => ?_)
          · refine v_iconst F (pc := 78) dX5_worst_78 ?_
            refine v_iadd F (pc := 79) (a := sm (m_wo σ r f) k) (b := 0) dX5_worst_79 ?_
            refine v_istore_n F (pc := 80) (lo' := [some (.ref (P 0)), some (.int (iI (r))), some (.int (iI (f))), some (.int (iI ((sm (m_wo σ r f) k) + 0))), some (.int (iI (k))), some (.int (iI (0)))]) dX5_worst_80 (Nat.le_of_ble_eq_true rfl) rfl ?_
            refine v_iinc F (pc := 81) (lo' := [some (.ref (P 0)), some (.int (iI (r))), some (.int (iI (f))), some (.int (iI ((sm (m_wo σ r f) k) + 0))), some (.int (iI (k + 1))), some (.int (iI (0)))]) dX5_worst_81 rfl (Nat.le_of_ble_eq_true rfl) rfl ?_
            refine v_goto F (pc := 84) 5 dX5_worst_84 (by decide) ?_
            have e_ : sm (m_wo σ r f) (k + 1) = (sm (m_wo σ r f) k) + 0 := by rw [sm_s _ hk0]; exact congrArg (fun z => sm (m_wo σ r f) k + z) (show (m_wo σ r f) k = 0 by simp only [m_wo]; split <;> first | omega | simp_all)
            have ih2 := ih (k + 1) (by omega) (by omega) (by omega)
            rw [e_] at ih2
            exact V.fg (ih2) ⟨rfl, ⟨rfl, ⟨rfl, ⟨rfl, ⟨rfl, trivial⟩⟩⟩⟩⟩
          · exact absurd c_5 (by decide)
        · refine v_iload_n F (pc := 25) dX5_worst_25 rfl ?_
          refine v_iconst F (pc := 26) dX5_worst_26 ?_
          refine v_icmp_eq F (pc := 27) (a := r) (b := -1) 41 dX5_worst_27 (by decide) (by omega) (by omega) (fun c_6 => ?_) (fun c_6 => ?_)
          · refine v_iconst F (pc := 41) dX5_worst_41 ?_
            refine v_goto F (pc := 42) 46 dX5_worst_42 (by decide) ?_
            refine v_istore F (pc := 46) (lo' := [some (.ref (P 0)), some (.int (iI (r))), some (.int (iI (f))), some (.int (iI (sm (m_wo σ r f) k))), some (.int (iI (k))), some (.int (iI (1)))]) dX5_worst_46 (Nat.le_of_ble_eq_true rfl) rfl ?_
            refine v_iload_n F (pc := 48) dX5_worst_48 rfl ?_
            refine v_iload F (pc := 49) dX5_worst_49 rfl ?_
            refine v_if_eq F (pc := 51) (a := 1) 78 dX5_worst_51 (by decide) (by omega) (fun c_7 => ?_) (fun c_7 => ?_)
            · exact absurd c_7 (by decide)
            · refine v_aload_n F (pc := 54) dX5_worst_54 rfl ?_
              refine v_getf F (pc := 55) fd_X5_47_8 (v := .ref (P 14)) dX5_worst_55 (mh_0 hP) rfl ?_
              refine v_iload F (pc := 58) dX5_worst_58 rfl ?_
              refine v_iald F (pc := 60) (n := 60) (f := σ 14) (z := k) dX5_worst_60 (mh_14 hP) (by omega) (by decide) ?_
              have b_8 : (0 : Int) ≤ (σ 14) k ∧ (σ 14) k ≤ (2 : Int) := hB 14 k (by omega) (show k < (60 : Int) by omega)
              refine v_iload_n F (pc := 61) dX5_worst_61 rfl ?_
              refine v_callSp F (pc := 62) (As := [.int (iI ((σ 14) k)), .int (iI (f))]) (rest := [.int (iI (sm (m_wo σ r f) k))]) ci_X5_76 ct_X5_isCorded (k_X5_isCorded l g ((σ 14) k) f (by omega) (by omega)) dX5_worst_62 rfl rfl (Nat.le_of_ble_eq_true rfl) (Nat.le_of_ble_eq_true rfl) (Nat.le_of_ble_eq_true rfl) (Nat.le_of_ble_eq_true rfl) (Nat.le_of_ble_eq_true rfl) ?_ (fun _ _ z => z.elim)
              refine v_if_eqB F (pc := 65) (b := (cdd ((σ 14) k) f)) 78 dX5_worst_65 (by decide) (fun c_9 => ?_) (fun c_9 => ?_)
              · refine v_iconst F (pc := 78) dX5_worst_78 ?_
                refine v_iadd F (pc := 79) (a := sm (m_wo σ r f) k) (b := 0) dX5_worst_79 ?_
                refine v_istore_n F (pc := 80) (lo' := [some (.ref (P 0)), some (.int (iI (r))), some (.int (iI (f))), some (.int (iI ((sm (m_wo σ r f) k) + 0))), some (.int (iI (k))), some (.int (iI (1)))]) dX5_worst_80 (Nat.le_of_ble_eq_true rfl) rfl ?_
                refine v_iinc F (pc := 81) (lo' := [some (.ref (P 0)), some (.int (iI (r))), some (.int (iI (f))), some (.int (iI ((sm (m_wo σ r f) k) + 0))), some (.int (iI (k + 1))), some (.int (iI (1)))]) dX5_worst_81 rfl (Nat.le_of_ble_eq_true rfl) rfl ?_
                refine v_goto F (pc := 84) 5 dX5_worst_84 (by decide) ?_
                have e_ : sm (m_wo σ r f) (k + 1) = (sm (m_wo σ r f) k) + 0 := by rw [sm_s _ hk0]; exact congrArg (fun z => sm (m_wo σ r f) k + z) (show (m_wo σ r f) k = 0 by simp only [m_wo]; split <;> first | omega | simp_all)
                have ih2 := ih (k + 1) (by omega) (by omega) (by omega)
                rw [e_] at ih2
                exact V.fg (ih2) ⟨rfl, ⟨rfl, ⟨rfl, ⟨rfl, ⟨rfl, trivial⟩⟩⟩⟩⟩
              · refine v_aload_n F (pc := 68) dX5_worst_68 rfl ?_
                refine v_getf F (pc := 69) fd_X5_41_8 (v := .ref (P 12)) dX5_worst_69 (mh_0 hP) rfl ?_
                refine v_iload F (pc := 72) dX5_worst_72 rfl ?_
                refine v_iald F (pc := 74) (n := 60) (f := σ 12) (z := k) dX5_worst_74 (mh_12 hP) (by omega) (by decide) ?_
                have b_10 : (0 : Int) ≤ (σ 12) k ∧ (σ 12) k ≤ (2000 : Int) := hB 12 k (by omega) (show k < (60 : Int) by omega)
                refine v_goto F (pc := 75) 79 dX5_worst_75 (by decide) ?_
                refine v_iadd F (pc := 79) (a := sm (m_wo σ r f) k) (b := (σ 12) k) dX5_worst_79 ?_
                refine v_istore_n F (pc := 80) (lo' := [some (.ref (P 0)), some (.int (iI (r))), some (.int (iI (f))), some (.int (iI ((sm (m_wo σ r f) k) + ((σ 12) k)))), some (.int (iI (k))), some (.int (iI (1)))]) dX5_worst_80 (Nat.le_of_ble_eq_true rfl) rfl ?_
                refine v_iinc F (pc := 81) (lo' := [some (.ref (P 0)), some (.int (iI (r))), some (.int (iI (f))), some (.int (iI ((sm (m_wo σ r f) k) + ((σ 12) k)))), some (.int (iI (k + 1))), some (.int (iI (1)))]) dX5_worst_81 rfl (Nat.le_of_ble_eq_true rfl) rfl ?_
                refine v_goto F (pc := 84) 5 dX5_worst_84 (by decide) ?_
                have e_ : sm (m_wo σ r f) (k + 1) = (sm (m_wo σ r f) k) + ((σ 12) k) := by rw [sm_s _ hk0]; exact congrArg (fun z => sm (m_wo σ r f) k + z) (show (m_wo σ r f) k = ((σ 12) k) by simp only [m_wo]; split <;> first | omega | simp_all)
                have ih2 := ih (k + 1) (by omega) (by omega) (by omega)
                rw [e_] at ih2
                exact V.fg (ih2) ⟨rfl, ⟨rfl, ⟨rfl, ⟨rfl, ⟨rfl, trivial⟩⟩⟩⟩⟩
          · refine v_aload_n F (pc := 30) dX5_worst_30 rfl ?_
            refine v_getf F (pc := 31) fd_X5_50_8 (v := .ref (P 15)) dX5_worst_31 (mh_0 hP) rfl ?_
            refine v_iload F (pc := 34) dX5_worst_34 rfl ?_
            refine v_iald F (pc := 36) (n := 60) (f := σ 15) (z := k) dX5_worst_36 (mh_15 hP) (by omega) (by decide) ?_
            have b_11 : (-1 : Int) ≤ (σ 15) k ∧ (σ 15) k ≤ (7 : Int) := hB 15 k (by omega) (show k < (60 : Int) by omega)
            refine v_iload_n F (pc := 37) dX5_worst_37 rfl ?_
            refine v_icmp_ne F (pc := 38) (a := (σ 15) k) (b := r) 45 dX5_worst_38 (by decide) (by omega) (by omega) (fun c_12 => ?_) (fun c_12 => ?_)
            · refine v_iconst F (pc := 45) dX5_worst_45 ?_
              refine v_istore F (pc := 46) (lo' := [some (.ref (P 0)), some (.int (iI (r))), some (.int (iI (f))), some (.int (iI (sm (m_wo σ r f) k))), some (.int (iI (k))), some (.int (iI (0)))]) dX5_worst_46 (Nat.le_of_ble_eq_true rfl) rfl ?_
              refine v_iload_n F (pc := 48) dX5_worst_48 rfl ?_
              refine v_iload F (pc := 49) dX5_worst_49 rfl ?_
              refine v_if_eq F (pc := 51) (a := 0) 78 dX5_worst_51 (by decide) (by omega) (fun c_13 => ?_) (fun c_13 => ?_)
              · refine v_iconst F (pc := 78) dX5_worst_78 ?_
                refine v_iadd F (pc := 79) (a := sm (m_wo σ r f) k) (b := 0) dX5_worst_79 ?_
                refine v_istore_n F (pc := 80) (lo' := [some (.ref (P 0)), some (.int (iI (r))), some (.int (iI (f))), some (.int (iI ((sm (m_wo σ r f) k) + 0))), some (.int (iI (k))), some (.int (iI (0)))]) dX5_worst_80 (Nat.le_of_ble_eq_true rfl) rfl ?_
                refine v_iinc F (pc := 81) (lo' := [some (.ref (P 0)), some (.int (iI (r))), some (.int (iI (f))), some (.int (iI ((sm (m_wo σ r f) k) + 0))), some (.int (iI (k + 1))), some (.int (iI (0)))]) dX5_worst_81 rfl (Nat.le_of_ble_eq_true rfl) rfl ?_
                refine v_goto F (pc := 84) 5 dX5_worst_84 (by decide) ?_
                have e_ : sm (m_wo σ r f) (k + 1) = (sm (m_wo σ r f) k) + 0 := by rw [sm_s _ hk0]; exact congrArg (fun z => sm (m_wo σ r f) k + z) (show (m_wo σ r f) k = 0 by simp only [m_wo]; split <;> first | omega | simp_all)
                have ih2 := ih (k + 1) (by omega) (by omega) (by omega)
                rw [e_] at ih2
                exact V.fg (ih2) ⟨rfl, ⟨rfl, ⟨rfl, ⟨rfl, ⟨rfl, trivial⟩⟩⟩⟩⟩
              · exact absurd c_13 (by decide)
            · refine v_iconst F (pc := 41) dX5_worst_41 ?_
              refine v_goto F (pc := 42) 46 dX5_worst_42 (by decide) ?_
              refine v_istore F (pc := 46) (lo' := [some (.ref (P 0)), some (.int (iI (r))), some (.int (iI (f))), some (.int (iI (sm (m_wo σ r f) k))), some (.int (iI (k))), some (.int (iI (1)))]) dX5_worst_46 (Nat.le_of_ble_eq_true rfl) rfl ?_
              refine v_iload_n F (pc := 48) dX5_worst_48 rfl ?_
              refine v_iload F (pc := 49) dX5_worst_49 rfl ?_
              refine v_if_eq F (pc := 51) (a := 1) 78 dX5_worst_51 (by decide) (by omega) (fun c_14 => ?_) (fun c_14 => ?_)
              · exact absurd c_14 (by decide)
              · refine v_aload_n F (pc := 54) dX5_worst_54 rfl ?_
                refine v_getf F (pc := 55) fd_X5_47_8 (v := .ref (P 14)) dX5_worst_55 (mh_0 hP) rfl ?_
                refine v_iload F (pc := 58) dX5_worst_58 rfl ?_
                refine v_iald F (pc := 60) (n := 60) (f := σ 14) (z := k) dX5_worst_60 (mh_14 hP) (by omega) (by decide) ?_
                have b_15 : (0 : Int) ≤ (σ 14) k ∧ (σ 14) k ≤ (2 : Int) := hB 14 k (by omega) (show k < (60 : Int) by omega)
                refine v_iload_n F (pc := 61) dX5_worst_61 rfl ?_
                refine v_callSp F (pc := 62) (As := [.int (iI ((σ 14) k)), .int (iI (f))]) (rest := [.int (iI (sm (m_wo σ r f) k))]) ci_X5_76 ct_X5_isCorded (k_X5_isCorded l g ((σ 14) k) f (by omega) (by omega)) dX5_worst_62 rfl rfl (Nat.le_of_ble_eq_true rfl) (Nat.le_of_ble_eq_true rfl) (Nat.le_of_ble_eq_true rfl) (Nat.le_of_ble_eq_true rfl) (Nat.le_of_ble_eq_true rfl) ?_ (fun _ _ z => z.elim)
                refine v_if_eqB F (pc := 65) (b := (cdd ((σ 14) k) f)) 78 dX5_worst_65 (by decide) (fun c_16 => ?_) (fun c_16 => ?_)
                · refine v_iconst F (pc := 78) dX5_worst_78 ?_
                  refine v_iadd F (pc := 79) (a := sm (m_wo σ r f) k) (b := 0) dX5_worst_79 ?_
                  refine v_istore_n F (pc := 80) (lo' := [some (.ref (P 0)), some (.int (iI (r))), some (.int (iI (f))), some (.int (iI ((sm (m_wo σ r f) k) + 0))), some (.int (iI (k))), some (.int (iI (1)))]) dX5_worst_80 (Nat.le_of_ble_eq_true rfl) rfl ?_
                  refine v_iinc F (pc := 81) (lo' := [some (.ref (P 0)), some (.int (iI (r))), some (.int (iI (f))), some (.int (iI ((sm (m_wo σ r f) k) + 0))), some (.int (iI (k + 1))), some (.int (iI (1)))]) dX5_worst_81 rfl (Nat.le_of_ble_eq_true rfl) rfl ?_
                  refine v_goto F (pc := 84) 5 dX5_worst_84 (by decide) ?_
                  have e_ : sm (m_wo σ r f) (k + 1) = (sm (m_wo σ r f) k) + 0 := by rw [sm_s _ hk0]; exact congrArg (fun z => sm (m_wo σ r f) k + z) (show (m_wo σ r f) k = 0 by simp only [m_wo]; split <;> first | omega | simp_all)
                  have ih2 := ih (k + 1) (by omega) (by omega) (by omega)
                  rw [e_] at ih2
                  exact V.fg (ih2) ⟨rfl, ⟨rfl, ⟨rfl, ⟨rfl, ⟨rfl, trivial⟩⟩⟩⟩⟩
                · refine v_aload_n F (pc := 68) dX5_worst_68 rfl ?_
                  refine v_getf F (pc := 69) fd_X5_41_8 (v := .ref (P 12)) dX5_worst_69 (mh_0 hP) rfl ?_
                  refine v_iload F (pc := 72) dX5_worst_72 rfl ?_
                  refine v_iald F (pc := 74) (n := 60) (f := σ 12) (z := k) dX5_worst_74 (mh_12 hP) (by omega) (by decide) ?_
                  have b_17 : (0 : Int) ≤ (σ 12) k ∧ (σ 12) k ≤ (2000 : Int) := hB 12 k (by omega) (show k < (60 : Int) by omega)
                  refine v_goto F (pc := 75) 79 dX5_worst_75 (by decide) ?_
                  refine v_iadd F (pc := 79) (a := sm (m_wo σ r f) k) (b := (σ 12) k) dX5_worst_79 ?_
                  refine v_istore_n F (pc := 80) (lo' := [some (.ref (P 0)), some (.int (iI (r))), some (.int (iI (f))), some (.int (iI ((sm (m_wo σ r f) k) + ((σ 12) k)))), some (.int (iI (k))), some (.int (iI (1)))]) dX5_worst_80 (Nat.le_of_ble_eq_true rfl) rfl ?_
                  refine v_iinc F (pc := 81) (lo' := [some (.ref (P 0)), some (.int (iI (r))), some (.int (iI (f))), some (.int (iI ((sm (m_wo σ r f) k) + ((σ 12) k)))), some (.int (iI (k + 1))), some (.int (iI (1)))]) dX5_worst_81 rfl (Nat.le_of_ble_eq_true rfl) rfl ?_
                  refine v_goto F (pc := 84) 5 dX5_worst_84 (by decide) ?_
                  have e_ : sm (m_wo σ r f) (k + 1) = (sm (m_wo σ r f) k) + ((σ 12) k) := by rw [sm_s _ hk0]; exact congrArg (fun z => sm (m_wo σ r f) k + z) (show (m_wo σ r f) k = ((σ 12) k) by simp only [m_wo]; split <;> first | omega | simp_all)
                  have ih2 := ih (k + 1) (by omega) (by omega) (by omega)
                  rw [e_] at ih2
                  exact V.fg (ih2) ⟨rfl, ⟨rfl, ⟨rfl, ⟨rfl, ⟨rfl, trivial⟩⟩⟩⟩⟩
  exact V.fg (LP5 _ 0 (Int.le_refl 0) (by omega) (Nat.lt_succ_self _)) ⟨rfl, ⟨rfl, ⟨rfl, ⟨rfl, ⟨rfl, trivial⟩⟩⟩⟩⟩
-- X5_weighs
set_option maxRecDepth 100000 in
set_option maxHeartbeats 8000000 in
theorem k_X5_weighs (l : Launch) (g : gT) {P : Nat → Nat} {σ : sT} (hP : mok P) (hB : MB σ) (r : Int) (hr : -2147483648 ≤ r ∧ r ≤ 2147483647) : CM l g yX5_weighs cX5_weighs 4 (some .int) ({ frames := 1, cells := 0, slots := 0, locals := 20 }) [.ref (P 0), .int (iI (r))] (mheap g P σ) (pV (some (.int (iI (m_weighs σ r)))) (mheap g P σ)) (noX) := by
  refine CM.of (lo := [some (.ref (P 0)), some (.int (iI (r))), none, none]) (by decide) (Nat.le_of_ble_eq_true rfl) (by simp [Value.category]) rfl ?_
  intro pX eX sX mX bX tX cX AX F htab hmn
  have F : Fx pX l sX mX ([.ref (P 0), .int (iI (r))] : List Value).toArray tX cX cX5_weighs 4 (some .int) RX5 g AX := F
  have bm : (0 : Int) ≤ σ 17 0 ∧ σ 17 0 ≤ (60 : Int) := mb_nm hB
  refine v_iconst F (pc := 0) dX5_weighs_0 ?_
  refine v_istore_n F (pc := 1) (lo' := [some (.ref (P 0)), some (.int (iI (r))), some (.int (iI (0))), none]) dX5_weighs_1 (Nat.le_of_ble_eq_true rfl) rfl ?_
  refine v_iconst F (pc := 2) dX5_weighs_2 ?_
  refine v_istore_n F (pc := 3) (lo' := [some (.ref (P 0)), some (.int (iI (r))), some (.int (iI (0))), some (.int (iI (0)))]) dX5_weighs_3 (Nat.le_of_ble_eq_true rfl) rfl ?_
  have LP4 : ∀ (N_ : Nat) (k : Int), (0 ≤ k) → (k ≤ (σ 17 0)) → ((σ 17 0) - k).toNat < N_ → VE pX l eX ({ frames := 1, cells := 0, slots := 0, locals := 20 }) sX mX ([.ref (P 0), .int (iI (r))] : List Value).toArray bX tX cX 4 g AX (mheap g P σ) 0 0 4 [some (.ref (P 0)), some (.int (iI (r))), some (.int (iI (sm (m_we σ r) k))), some (.int (iI (k)))] [] (pV (some (.int (iI (m_weighs σ r)))) (mheap g P σ)) (noX) 0 0 := by
    intro N_
    induction N_ with
    | zero => intro k _ _ hm_; exact absurd hm_ (Nat.not_lt_zero _)
    | succ N_ ih =>
      intro k hk0 hk1 hm_
      refine v_iload_n F (pc := 4) dX5_weighs_4 rfl ?_
      refine v_aload_n F (pc := 5) dX5_weighs_5 rfl ?_
      refine v_getf F (pc := 6) fd_X5_73_8 (v := .int (iI (σ 17 0))) dX5_weighs_6 (mh_0 hP) rfl ?_
      have b_1 : (0 : Int) ≤ σ 17 0 ∧ σ 17 0 ≤ (60 : Int) := hB 17 0 (by decide) (by decide)
      refine v_icmp_ge F (pc := 9) (a := k) (b := σ 17 0) 41 dX5_weighs_9 (by decide) (by omega) (by omega) (fun c_2 => ?_) (fun c_2 => ?_)
      · refine v_iload_n F (pc := 41) dX5_weighs_41 rfl ?_
        refine v_iret F (pc := 42) (z := (iI (sm (m_we σ r) k))) dX5_weighs_42 rfl rfl (Nat.le_of_ble_eq_true rfl) (Nat.le_of_ble_eq_true rfl) ?_
        exact ⟨by rw [show m_weighs σ r = sm (m_we σ r) k from by rw [show k = σ 17 0 by omega]; rfl], rfl⟩
      · refine v_iload_n F (pc := 12) dX5_weighs_12 rfl ?_
        refine v_aload_n F (pc := 13) dX5_weighs_13 rfl ?_
        refine v_getf F (pc := 14) fd_X5_50_8 (v := .ref (P 15)) dX5_weighs_14 (mh_0 hP) rfl ?_
        refine v_iload_n F (pc := 17) dX5_weighs_17 rfl ?_
        refine v_iald F (pc := 18) (n := 60) (f := σ 15) (z := k) dX5_weighs_18 (mh_15 hP) (by omega) (by decide) ?_
        have b_3 : (-1 : Int) ≤ (σ 15) k ∧ (σ 15) k ≤ (7 : Int) := hB 15 k (by omega) (show k < (60 : Int) by omega)
        refine v_iload_n F (pc := 19) dX5_weighs_19 rfl ?_
        refine v_icmp_ne F (pc := 20) (a := (σ 15) k) (b := r) 32 dX5_weighs_20 (by decide) (by omega) (by omega) (fun c_4 => ?_) (fun c_4 => ?_)
        · refine v_iconst F (pc := 32) dX5_weighs_32 ?_
          refine v_iadd F (pc := 33) (a := sm (m_we σ r) k) (b := 0) dX5_weighs_33 ?_
          refine v_istore_n F (pc := 34) (lo' := [some (.ref (P 0)), some (.int (iI (r))), some (.int (iI ((sm (m_we σ r) k) + 0))), some (.int (iI (k)))]) dX5_weighs_34 (Nat.le_of_ble_eq_true rfl) rfl ?_
          refine v_iinc F (pc := 35) (lo' := [some (.ref (P 0)), some (.int (iI (r))), some (.int (iI ((sm (m_we σ r) k) + 0))), some (.int (iI (k + 1)))]) dX5_weighs_35 rfl (Nat.le_of_ble_eq_true rfl) rfl ?_
          refine v_goto F (pc := 38) 4 dX5_weighs_38 (by decide) ?_
          have e_ : sm (m_we σ r) (k + 1) = (sm (m_we σ r) k) + 0 := by rw [sm_s _ hk0]; exact congrArg (fun z => sm (m_we σ r) k + z) (show (m_we σ r) k = 0 by simp only [m_we]; split <;> first | omega | simp_all)
          have ih2 := ih (k + 1) (by omega) (by omega) (by omega)
          rw [e_] at ih2
          exact ih2
        · refine v_aload_n F (pc := 23) dX5_weighs_23 rfl ?_
          refine v_getf F (pc := 24) fd_X5_44_8 (v := .ref (P 13)) dX5_weighs_24 (mh_0 hP) rfl ?_
          refine v_iload_n F (pc := 27) dX5_weighs_27 rfl ?_
          refine v_iald F (pc := 28) (n := 60) (f := σ 13) (z := k) dX5_weighs_28 (mh_13 hP) (by omega) (by decide) ?_
          have b_5 : (0 : Int) ≤ (σ 13) k ∧ (σ 13) k ≤ (1000 : Int) := hB 13 k (by omega) (show k < (60 : Int) by omega)
          refine v_goto F (pc := 29) 33 dX5_weighs_29 (by decide) ?_
          refine v_iadd F (pc := 33) (a := sm (m_we σ r) k) (b := (σ 13) k) dX5_weighs_33 ?_
          refine v_istore_n F (pc := 34) (lo' := [some (.ref (P 0)), some (.int (iI (r))), some (.int (iI ((sm (m_we σ r) k) + ((σ 13) k)))), some (.int (iI (k)))]) dX5_weighs_34 (Nat.le_of_ble_eq_true rfl) rfl ?_
          refine v_iinc F (pc := 35) (lo' := [some (.ref (P 0)), some (.int (iI (r))), some (.int (iI ((sm (m_we σ r) k) + ((σ 13) k)))), some (.int (iI (k + 1)))]) dX5_weighs_35 rfl (Nat.le_of_ble_eq_true rfl) rfl ?_
          refine v_goto F (pc := 38) 4 dX5_weighs_38 (by decide) ?_
          have e_ : sm (m_we σ r) (k + 1) = (sm (m_we σ r) k) + ((σ 13) k) := by rw [sm_s _ hk0]; exact congrArg (fun z => sm (m_we σ r) k + z) (show (m_we σ r) k = ((σ 13) k) by simp only [m_we]; split <;> first | omega | simp_all)
          have ih2 := ih (k + 1) (by omega) (by omega) (by omega)
          rw [e_] at ih2
          exact ih2
  exact LP4 _ 0 (Int.le_refl 0) (by omega) (Nat.lt_succ_self _)
-- X5_rowWeighs
set_option maxRecDepth 100000 in
set_option maxHeartbeats 8000000 in
theorem k_X5_rowWeighs (l : Launch) (g : gT) {P : Nat → Nat} {σ : sT} (hP : mok P) (hB : MB σ) (row : Int) (hrow : -2147483648 ≤ row ∧ row ≤ 2147483647) : CM l g yX5_rowWeighs cX5_rowWeighs 4 (some .int) ({ frames := 2, cells := 0, slots := 0, locals := 43 }) [.ref (P 0), .int (iI (row))] (mheap g P σ) (pV (some (.int (iI (m_rowWeighs σ row)))) (mheap g P σ)) (noX) := by
  refine CM.of (lo := [some (.ref (P 0)), some (.int (iI (row))), none, none]) (by decide) (Nat.le_of_ble_eq_true rfl) (by simp [Value.category]) rfl ?_
  intro pX eX sX mX bX tX cX AX F htab hmn
  have F : Fx pX l sX mX ([.ref (P 0), .int (iI (row))] : List Value).toArray tX cX cX5_rowWeighs 4 (some .int) RX5 g AX := F
  have br : (0 : Int) ≤ σ 5 0 ∧ σ 5 0 ≤ (8 : Int) := mb_nr hB
  refine v_iconst F (pc := 0) dX5_rowWeighs_0 ?_
  refine v_istore_n F (pc := 1) (lo' := [some (.ref (P 0)), some (.int (iI (row))), some (.int (iI (0))), none]) dX5_rowWeighs_1 (Nat.le_of_ble_eq_true rfl) rfl ?_
  refine v_iconst F (pc := 2) dX5_rowWeighs_2 ?_
  refine v_istore_n F (pc := 3) (lo' := [some (.ref (P 0)), some (.int (iI (row))), some (.int (iI (0))), some (.int (iI (0)))]) dX5_rowWeighs_3 (Nat.le_of_ble_eq_true rfl) rfl ?_
  have LP4 : ∀ (N_ : Nat) (k : Int), (0 ≤ k) → (k ≤ (σ 5 0)) → ((σ 5 0) - k).toNat < N_ → VE pX l eX ({ frames := 2, cells := 0, slots := 0, locals := 43 }) sX mX ([.ref (P 0), .int (iI (row))] : List Value).toArray bX tX cX 4 g AX (mheap g P σ) 0 0 4 [some (.ref (P 0)), some (.int (iI (row))), some (.int (iI (sm (m_rw σ row) k))), some (.int (iI (k)))] [] (pV (some (.int (iI (m_rowWeighs σ row)))) (mheap g P σ)) (noX) 0 0 := by
    intro N_
    induction N_ with
    | zero => intro k _ _ hm_; exact absurd hm_ (Nat.not_lt_zero _)
    | succ N_ ih =>
      intro k hk0 hk1 hm_
      refine v_iload_n F (pc := 4) dX5_rowWeighs_4 rfl ?_
      refine v_aload_n F (pc := 5) dX5_rowWeighs_5 rfl ?_
      refine v_getf F (pc := 6) fd_X5_66_8 (v := .int (iI (σ 5 0))) dX5_rowWeighs_6 (mh_0 hP) rfl ?_
      have b_1 : (0 : Int) ≤ σ 5 0 ∧ σ 5 0 ≤ (8 : Int) := hB 5 0 (by decide) (by decide)
      refine v_icmp_ge F (pc := 9) (a := k) (b := σ 5 0) 40 dX5_rowWeighs_9 (by decide) (by omega) (by omega) (fun c_2 => ?_) (fun c_2 => ?_)
      · refine v_iload_n F (pc := 40) dX5_rowWeighs_40 rfl ?_
        refine v_iret F (pc := 41) (z := (iI (sm (m_rw σ row) k))) dX5_rowWeighs_41 rfl rfl (Nat.le_of_ble_eq_true rfl) (Nat.le_of_ble_eq_true rfl) ?_
        exact ⟨by rw [show m_rowWeighs σ row = sm (m_rw σ row) k from by rw [show k = σ 5 0 by omega]; rfl], rfl⟩
      · refine v_iload_n F (pc := 12) dX5_rowWeighs_12 rfl ?_
        refine v_aload_n F (pc := 13) dX5_rowWeighs_13 rfl ?_
        refine v_getf F (pc := 14) fd_X5_7_8 (v := .ref (P 1)) dX5_rowWeighs_14 (mh_0 hP) rfl ?_
        refine v_iload_n F (pc := 17) dX5_rowWeighs_17 rfl ?_
        refine v_iald F (pc := 18) (n := 8) (f := σ 1) (z := k) dX5_rowWeighs_18 (mh_1 hP) (by omega) (by decide) ?_
        have b_3 : (0 : Int) ≤ (σ 1) k ∧ (σ 1) k ≤ (3 : Int) := hB 1 k (by omega) (show k < (8 : Int) by omega)
        refine v_iload_n F (pc := 19) dX5_rowWeighs_19 rfl ?_
        refine v_icmp_ne F (pc := 20) (a := (σ 1) k) (b := row) 31 dX5_rowWeighs_20 (by decide) (by omega) (by omega) (fun c_4 => ?_) (fun c_4 => ?_)
        · refine v_iconst F (pc := 31) dX5_rowWeighs_31 ?_
          refine v_iadd F (pc := 32) (a := sm (m_rw σ row) k) (b := 0) dX5_rowWeighs_32 ?_
          refine v_istore_n F (pc := 33) (lo' := [some (.ref (P 0)), some (.int (iI (row))), some (.int (iI ((sm (m_rw σ row) k) + 0))), some (.int (iI (k)))]) dX5_rowWeighs_33 (Nat.le_of_ble_eq_true rfl) rfl ?_
          refine v_iinc F (pc := 34) (lo' := [some (.ref (P 0)), some (.int (iI (row))), some (.int (iI ((sm (m_rw σ row) k) + 0))), some (.int (iI (k + 1)))]) dX5_rowWeighs_34 rfl (Nat.le_of_ble_eq_true rfl) rfl ?_
          refine v_goto F (pc := 37) 4 dX5_rowWeighs_37 (by decide) ?_
          have e_ : sm (m_rw σ row) (k + 1) = (sm (m_rw σ row) k) + 0 := by rw [sm_s _ hk0]; exact congrArg (fun z => sm (m_rw σ row) k + z) (show (m_rw σ row) k = 0 by simp only [m_rw]; split <;> first | omega | simp_all)
          have ih2 := ih (k + 1) (by omega) (by omega) (by omega)
          rw [e_] at ih2
          exact ih2
        · refine v_aload_n F (pc := 23) dX5_rowWeighs_23 rfl ?_
          refine v_iload_n F (pc := 24) dX5_rowWeighs_24 rfl ?_
          refine v_callVp F (pc := 25) (As := [.int (iI (k))]) (rest := [.int (iI (sm (m_rw σ row) k))]) ci_X5_80 ct_X5_weighs cs_X5_weighs (k_X5_weighs l g hP hB k (by omega)) dX5_rowWeighs_25 (k0 := 8) rfl rfl (mh_0 hP) rfl rfl (Nat.le_of_ble_eq_true rfl) (Nat.le_of_ble_eq_true rfl) (Nat.le_of_ble_eq_true rfl) (Nat.le_of_ble_eq_true rfl) (Nat.le_of_ble_eq_true rfl) ?_ (fun _ _ z => z.elim)
          have rg_5 := m_weighs_rng hB k
          refine v_goto F (pc := 28) 32 dX5_rowWeighs_28 (by decide) ?_
          refine v_iadd F (pc := 32) (a := sm (m_rw σ row) k) (b := m_weighs σ k) dX5_rowWeighs_32 ?_
          refine v_istore_n F (pc := 33) (lo' := [some (.ref (P 0)), some (.int (iI (row))), some (.int (iI ((sm (m_rw σ row) k) + (m_weighs σ k)))), some (.int (iI (k)))]) dX5_rowWeighs_33 (Nat.le_of_ble_eq_true rfl) rfl ?_
          refine v_iinc F (pc := 34) (lo' := [some (.ref (P 0)), some (.int (iI (row))), some (.int (iI ((sm (m_rw σ row) k) + (m_weighs σ k)))), some (.int (iI (k + 1)))]) dX5_rowWeighs_34 rfl (Nat.le_of_ble_eq_true rfl) rfl ?_
          refine v_goto F (pc := 37) 4 dX5_rowWeighs_37 (by decide) ?_
          have e_ : sm (m_rw σ row) (k + 1) = (sm (m_rw σ row) k) + (m_weighs σ k) := by rw [sm_s _ hk0]; exact congrArg (fun z => sm (m_rw σ row) k + z) (show (m_rw σ row) k = (m_weighs σ k) by simp only [m_rw]; split <;> first | omega | simp_all)
          have ih2 := ih (k + 1) (by omega) (by omega) (by omega)
          rw [e_] at ih2
          exact ih2
  exact LP4 _ 0 (Int.le_refl 0) (by omega) (Nat.lt_succ_self _)
-- X5_rowHeats
set_option maxRecDepth 100000 in
set_option maxHeartbeats 8000000 in
theorem k_X5_rowHeats (l : Launch) (g : gT) {P : Nat → Nat} {σ : sT} (hP : mok P) (hB : MB σ) (row : Int) (hrow : -2147483648 ≤ row ∧ row ≤ 2147483647) : CM l g yX5_rowHeats cX5_rowHeats 4 (some .int) ({ frames := 1, cells := 0, slots := 0, locals := 20 }) [.ref (P 0), .int (iI (row))] (mheap g P σ) (pV (some (.int (iI (m_rowHeats σ row)))) (mheap g P σ)) (noX) := by
  refine CM.of (lo := [some (.ref (P 0)), some (.int (iI (row))), none, none]) (by decide) (Nat.le_of_ble_eq_true rfl) (by simp [Value.category]) rfl ?_
  intro pX eX sX mX bX tX cX AX F htab hmn
  have F : Fx pX l sX mX ([.ref (P 0), .int (iI (row))] : List Value).toArray tX cX cX5_rowHeats 4 (some .int) RX5 g AX := F
  have bm : (0 : Int) ≤ σ 17 0 ∧ σ 17 0 ≤ (60 : Int) := mb_nm hB
  refine v_iconst F (pc := 0) dX5_rowHeats_0 ?_
  refine v_istore_n F (pc := 1) (lo' := [some (.ref (P 0)), some (.int (iI (row))), some (.int (iI (0))), none]) dX5_rowHeats_1 (Nat.le_of_ble_eq_true rfl) rfl ?_
  refine v_iconst F (pc := 2) dX5_rowHeats_2 ?_
  refine v_istore_n F (pc := 3) (lo' := [some (.ref (P 0)), some (.int (iI (row))), some (.int (iI (0))), some (.int (iI (0)))]) dX5_rowHeats_3 (Nat.le_of_ble_eq_true rfl) rfl ?_
  have LP4 : ∀ (N_ : Nat) (k : Int), (0 ≤ k) → (k ≤ (σ 17 0)) → ((σ 17 0) - k).toNat < N_ → VE pX l eX ({ frames := 1, cells := 0, slots := 0, locals := 20 }) sX mX ([.ref (P 0), .int (iI (row))] : List Value).toArray bX tX cX 4 g AX (mheap g P σ) 0 0 4 [some (.ref (P 0)), some (.int (iI (row))), some (.int (iI (sm (m_rh σ row) k))), some (.int (iI (k)))] [] (pV (some (.int (iI (m_rowHeats σ row)))) (mheap g P σ)) (noX) 0 0 := by
    intro N_
    induction N_ with
    | zero => intro k _ _ hm_; exact absurd hm_ (Nat.not_lt_zero _)
    | succ N_ ih =>
      intro k hk0 hk1 hm_
      refine v_iload_n F (pc := 4) dX5_rowHeats_4 rfl ?_
      refine v_aload_n F (pc := 5) dX5_rowHeats_5 rfl ?_
      refine v_getf F (pc := 6) fd_X5_73_8 (v := .int (iI (σ 17 0))) dX5_rowHeats_6 (mh_0 hP) rfl ?_
      have b_1 : (0 : Int) ≤ σ 17 0 ∧ σ 17 0 ≤ (60 : Int) := hB 17 0 (by decide) (by decide)
      refine v_icmp_ge F (pc := 9) (a := k) (b := σ 17 0) 56 dX5_rowHeats_9 (by decide) (by omega) (by omega) (fun c_2 => ?_) (fun c_2 => ?_)
      · refine v_iload_n F (pc := 56) dX5_rowHeats_56 rfl ?_
        refine v_iret F (pc := 57) (z := (iI (sm (m_rh σ row) k))) dX5_rowHeats_57 rfl rfl (Nat.le_of_ble_eq_true rfl) (Nat.le_of_ble_eq_true rfl) ?_
        exact ⟨by rw [show m_rowHeats σ row = sm (m_rh σ row) k from by rw [show k = σ 17 0 by omega]; rfl], rfl⟩
      · refine v_iload_n F (pc := 12) dX5_rowHeats_12 rfl ?_
        refine v_aload_n F (pc := 13) dX5_rowHeats_13 rfl ?_
        refine v_getf F (pc := 14) fd_X5_50_8 (v := .ref (P 15)) dX5_rowHeats_14 (mh_0 hP) rfl ?_
        refine v_iload_n F (pc := 17) dX5_rowHeats_17 rfl ?_
        refine v_iald F (pc := 18) (n := 60) (f := σ 15) (z := k) dX5_rowHeats_18 (mh_15 hP) (by omega) (by decide) ?_
        have b_3 : (-1 : Int) ≤ (σ 15) k ∧ (σ 15) k ≤ (7 : Int) := hB 15 k (by omega) (show k < (60 : Int) by omega)
        refine v_iconst F (pc := 19) dX5_rowHeats_19 ?_
        refine v_icmp_eq F (pc := 20) (a := (σ 15) k) (b := -1) 47 dX5_rowHeats_20 (by decide) (by omega) (by omega) (fun c_4 => ?_) (fun c_4 => ?_)
        · refine v_iconst F (pc := 47) dX5_rowHeats_47 ?_
          refine v_iadd F (pc := 48) (a := sm (m_rh σ row) k) (b := 0) dX5_rowHeats_48 ?_
          refine v_istore_n F (pc := 49) (lo' := [some (.ref (P 0)), some (.int (iI (row))), some (.int (iI ((sm (m_rh σ row) k) + 0))), some (.int (iI (k)))]) dX5_rowHeats_49 (Nat.le_of_ble_eq_true rfl) rfl ?_
          refine v_iinc F (pc := 50) (lo' := [some (.ref (P 0)), some (.int (iI (row))), some (.int (iI ((sm (m_rh σ row) k) + 0))), some (.int (iI (k + 1)))]) dX5_rowHeats_50 rfl (Nat.le_of_ble_eq_true rfl) rfl ?_
          refine v_goto F (pc := 53) 4 dX5_rowHeats_53 (by decide) ?_
          have e_ : sm (m_rh σ row) (k + 1) = (sm (m_rh σ row) k) + 0 := by rw [sm_s _ hk0]; exact congrArg (fun z => sm (m_rh σ row) k + z) (show (m_rh σ row) k = 0 by simp only [m_rh]; split <;> first | omega | simp_all)
          have ih2 := ih (k + 1) (by omega) (by omega) (by omega)
          rw [e_] at ih2
          exact ih2
        · refine v_aload_n F (pc := 23) dX5_rowHeats_23 rfl ?_
          refine v_getf F (pc := 24) fd_X5_7_8 (v := .ref (P 1)) dX5_rowHeats_24 (mh_0 hP) rfl ?_
          refine v_aload_n F (pc := 27) dX5_rowHeats_27 rfl ?_
          refine v_getf F (pc := 28) fd_X5_50_8 (v := .ref (P 15)) dX5_rowHeats_28 (mh_0 hP) rfl ?_
          refine v_iload_n F (pc := 31) dX5_rowHeats_31 rfl ?_
          refine v_iald F (pc := 32) (n := 60) (f := σ 15) (z := k) dX5_rowHeats_32 (mh_15 hP) (by omega) (by decide) ?_
          have b_5 : (-1 : Int) ≤ (σ 15) k ∧ (σ 15) k ≤ (7 : Int) := hB 15 k (by omega) (show k < (60 : Int) by omega)
          refine v_iald F (pc := 33) (n := 8) (f := σ 1) (z := (σ 15) k) dX5_rowHeats_33 (mh_1 hP) (by omega) (by decide) ?_
          have b_6 : (0 : Int) ≤ (σ 1) ((σ 15) k) ∧ (σ 1) ((σ 15) k) ≤ (3 : Int) := hB 1 ((σ 15) k) (by omega) (show (σ 15) k < (8 : Int) by omega)
          refine v_iload_n F (pc := 34) dX5_rowHeats_34 rfl ?_
          refine v_icmp_ne F (pc := 35) (a := (σ 1) ((σ 15) k)) (b := row) 47 dX5_rowHeats_35 (by decide) (by omega) (by omega) (fun c_7 => ?_) (fun c_7 => ?_)
          · refine v_iconst F (pc := 47) dX5_rowHeats_47 ?_
            refine v_iadd F (pc := 48) (a := sm (m_rh σ row) k) (b := 0) dX5_rowHeats_48 ?_
            refine v_istore_n F (pc := 49) (lo' := [some (.ref (P 0)), some (.int (iI (row))), some (.int (iI ((sm (m_rh σ row) k) + 0))), some (.int (iI (k)))]) dX5_rowHeats_49 (Nat.le_of_ble_eq_true rfl) rfl ?_
            refine v_iinc F (pc := 50) (lo' := [some (.ref (P 0)), some (.int (iI (row))), some (.int (iI ((sm (m_rh σ row) k) + 0))), some (.int (iI (k + 1)))]) dX5_rowHeats_50 rfl (Nat.le_of_ble_eq_true rfl) rfl ?_
            refine v_goto F (pc := 53) 4 dX5_rowHeats_53 (by decide) ?_
            have e_ : sm (m_rh σ row) (k + 1) = (sm (m_rh σ row) k) + 0 := by rw [sm_s _ hk0]; exact congrArg (fun z => sm (m_rh σ row) k + z) (show (m_rh σ row) k = 0 by simp only [m_rh]; split <;> first | omega | simp_all)
            have ih2 := ih (k + 1) (by omega) (by omega) (by omega)
            rw [e_] at ih2
            exact ih2
          · refine v_aload_n F (pc := 38) dX5_rowHeats_38 rfl ?_
            refine v_getf F (pc := 39) fd_X5_41_8 (v := .ref (P 12)) dX5_rowHeats_39 (mh_0 hP) rfl ?_
            refine v_iload_n F (pc := 42) dX5_rowHeats_42 rfl ?_
            refine v_iald F (pc := 43) (n := 60) (f := σ 12) (z := k) dX5_rowHeats_43 (mh_12 hP) (by omega) (by decide) ?_
            have b_8 : (0 : Int) ≤ (σ 12) k ∧ (σ 12) k ≤ (2000 : Int) := hB 12 k (by omega) (show k < (60 : Int) by omega)
            refine v_goto F (pc := 44) 48 dX5_rowHeats_44 (by decide) ?_
            refine v_iadd F (pc := 48) (a := sm (m_rh σ row) k) (b := (σ 12) k) dX5_rowHeats_48 ?_
            refine v_istore_n F (pc := 49) (lo' := [some (.ref (P 0)), some (.int (iI (row))), some (.int (iI ((sm (m_rh σ row) k) + ((σ 12) k)))), some (.int (iI (k)))]) dX5_rowHeats_49 (Nat.le_of_ble_eq_true rfl) rfl ?_
            refine v_iinc F (pc := 50) (lo' := [some (.ref (P 0)), some (.int (iI (row))), some (.int (iI ((sm (m_rh σ row) k) + ((σ 12) k)))), some (.int (iI (k + 1)))]) dX5_rowHeats_50 rfl (Nat.le_of_ble_eq_true rfl) rfl ?_
            refine v_goto F (pc := 53) 4 dX5_rowHeats_53 (by decide) ?_
            have e_ : sm (m_rh σ row) (k + 1) = (sm (m_rh σ row) k) + ((σ 12) k) := by rw [sm_s _ hk0]; exact congrArg (fun z => sm (m_rh σ row) k + z) (show (m_rh σ row) k = ((σ 12) k) by simp only [m_rh]; split <;> first | omega | simp_all)
            have ih2 := ih (k + 1) (by omega) (by omega) (by omega)
            rw [e_] at ih2
            exact ih2
  exact LP4 _ 0 (Int.le_refl 0) (by omega) (Nat.lt_succ_self _)
-- X5_isDarkAt
set_option maxRecDepth 100000 in
set_option maxHeartbeats 8000000 in
theorem k_X5_isDarkAt (l : Launch) (g : gT) {P : Nat → Nat} {σ : sT} (hP : mok P) (hB : MB σ) (k : Int) (hk : 0 ≤ k ∧ k < 60) : CM l g yX5_isDarkAt cX5_isDarkAt 2 (some .boolean) ({ frames := 2, cells := 0, slots := 0, locals := 41 }) [.ref (P 0), .int (iI (k))] (mheap g P σ) (pV (some (.int (iI (bI (m_dark σ k))))) (mheap g P σ)) (noX) := by
  refine CM.of (lo := [some (.ref (P 0)), some (.int (iI (k)))]) (by decide) (Nat.le_of_ble_eq_true rfl) (by simp [Value.category]) rfl ?_
  intro pX eX sX mX bX tX cX AX F htab hmn
  have F : Fx pX l sX mX ([.ref (P 0), .int (iI (k))] : List Value).toArray tX cX cX5_isDarkAt 2 (some .boolean) RX5 g AX := F
  refine v_aload_n F (pc := 0) dX5_isDarkAt_0 rfl ?_
  refine v_getf F (pc := 1) fd_X5_31_8 (v := .ref (P 9)) dX5_isDarkAt_1 (mh_0 hP) rfl ?_
  refine v_iconst F (pc := 4) dX5_isDarkAt_4 ?_
  refine v_zald F (pc := 5) (n := 2) (f := σ 9) (z := 0) dX5_isDarkAt_5 (mh_9 hP) (by omega) (by decide) ?_
  have b_1 : (0 : Int) ≤ (σ 9) 0 ∧ (σ 9) 0 ≤ (1 : Int) := hB 9 0 (by decide) (by decide)
  refine v_if_ne F (pc := 6) (a := (σ 9) 0) 22 dX5_isDarkAt_6 (by decide) (by omega) (fun c_2 => ?_) (fun c_2 => ?_)
  · have e0_ : σ 9 0 = 1 := by omega
    refine v_aload_n F (pc := 22) dX5_isDarkAt_22 rfl ?_
    refine v_getf F (pc := 23) fd_X5_31_8 (v := .ref (P 9)) dX5_isDarkAt_23 (mh_0 hP) rfl ?_
    refine v_iconst F (pc := 26) dX5_isDarkAt_26 ?_
    refine v_zald F (pc := 27) (n := 2) (f := σ 9) (z := 1) dX5_isDarkAt_27 (mh_9 hP) (by omega) (by decide) ?_
    have b_3 : (0 : Int) ≤ (σ 9) 1 ∧ (σ 9) 1 ≤ (1 : Int) := hB 9 1 (by omega) (show 1 < (2 : Int) by omega)
    refine v_if_ne F (pc := 28) (a := (σ 9) 1) 44 dX5_isDarkAt_28 (by decide) (by omega) (fun c_4 => ?_) (fun c_4 => ?_)
    · have e1_ : σ 9 1 = 1 := by omega
      refine v_iconst F (pc := 44) dX5_isDarkAt_44 ?_
      refine v_goto F (pc := 45) 49 dX5_isDarkAt_45 (by decide) ?_
      refine v_iret F (pc := 49) (z := (iI (1))) dX5_isDarkAt_49 rfl (by first | rfl | exact nar_bI _ | decide) (Nat.le_of_ble_eq_true rfl) (Nat.le_of_ble_eq_true rfl) ?_
      exact ⟨congrArg (fun z => some (Value.int (iI z))) (show (1 : Int) = bI (m_dark σ k) by simp only [m_dark, bI, Bool.and_eq_true, Bool.or_eq_true, Bool.not_eq_true, decide_eq_true_eq, decide_eq_false_iff_not, decide_not]; split <;> first | omega | simp_all), rfl⟩
    · have e1_ : σ 9 1 = 0 := by omega
      refine v_aload_n F (pc := 31) dX5_isDarkAt_31 rfl ?_
      refine v_getf F (pc := 32) fd_X5_47_8 (v := .ref (P 14)) dX5_isDarkAt_32 (mh_0 hP) rfl ?_
      refine v_iload_n F (pc := 35) dX5_isDarkAt_35 rfl ?_
      refine v_iald F (pc := 36) (n := 60) (f := σ 14) (z := k) dX5_isDarkAt_36 (mh_14 hP) (by omega) (by decide) ?_
      have b_5 : (0 : Int) ≤ (σ 14) k ∧ (σ 14) k ≤ (2 : Int) := hB 14 k (by omega) (show k < (60 : Int) by omega)
      refine v_iconst F (pc := 37) dX5_isDarkAt_37 ?_
      refine v_callSp F (pc := 38) (As := [.int (iI ((σ 14) k)), .int (iI (1))]) (rest := []) ci_X5_76 ct_X5_isCorded (k_X5_isCorded l g ((σ 14) k) 1 (by omega) (by omega)) dX5_isDarkAt_38 rfl rfl (Nat.le_of_ble_eq_true rfl) (Nat.le_of_ble_eq_true rfl) (Nat.le_of_ble_eq_true rfl) (Nat.le_of_ble_eq_true rfl) (Nat.le_of_ble_eq_true rfl) ?_ (fun _ _ z => z.elim)
      refine v_if_neB F (pc := 41) (b := (cdd ((σ 14) k) 1)) 48 dX5_isDarkAt_41 (by decide) (fun c_6 => ?_) (fun c_6 => ?_)
      · refine v_iconst F (pc := 48) dX5_isDarkAt_48 ?_
        refine v_iret F (pc := 49) (z := (iI (0))) dX5_isDarkAt_49 rfl (by first | rfl | exact nar_bI _ | decide) (Nat.le_of_ble_eq_true rfl) (Nat.le_of_ble_eq_true rfl) ?_
        exact ⟨congrArg (fun z => some (Value.int (iI z))) (show (0 : Int) = bI (m_dark σ k) by simp only [m_dark, bI, Bool.and_eq_true, Bool.or_eq_true, Bool.not_eq_true, decide_eq_true_eq, decide_eq_false_iff_not, decide_not]; split <;> first | omega | simp_all), rfl⟩
      · refine v_iconst F (pc := 44) dX5_isDarkAt_44 ?_
        refine v_goto F (pc := 45) 49 dX5_isDarkAt_45 (by decide) ?_
        refine v_iret F (pc := 49) (z := (iI (1))) dX5_isDarkAt_49 rfl (by first | rfl | exact nar_bI _ | decide) (Nat.le_of_ble_eq_true rfl) (Nat.le_of_ble_eq_true rfl) ?_
        exact ⟨congrArg (fun z => some (Value.int (iI z))) (show (1 : Int) = bI (m_dark σ k) by simp only [m_dark, bI, Bool.and_eq_true, Bool.or_eq_true, Bool.not_eq_true, decide_eq_true_eq, decide_eq_false_iff_not, decide_not]; split <;> first | omega | simp_all), rfl⟩
  · have e0_ : σ 9 0 = 0 := by omega
    refine v_aload_n F (pc := 9) dX5_isDarkAt_9 rfl ?_
    refine v_getf F (pc := 10) fd_X5_47_8 (v := .ref (P 14)) dX5_isDarkAt_10 (mh_0 hP) rfl ?_
    refine v_iload_n F (pc := 13) dX5_isDarkAt_13 rfl ?_
    refine v_iald F (pc := 14) (n := 60) (f := σ 14) (z := k) dX5_isDarkAt_14 (mh_14 hP) (by omega) (by decide) ?_
    have b_7 : (0 : Int) ≤ (σ 14) k ∧ (σ 14) k ≤ (2 : Int) := hB 14 k (by omega) (show k < (60 : Int) by omega)
    refine v_iconst F (pc := 15) dX5_isDarkAt_15 ?_
    refine v_callSp F (pc := 16) (As := [.int (iI ((σ 14) k)), .int (iI (0))]) (rest := []) ci_X5_76 ct_X5_isCorded (k_X5_isCorded l g ((σ 14) k) 0 (by omega) (by omega)) dX5_isDarkAt_16 rfl rfl (Nat.le_of_ble_eq_true rfl) (Nat.le_of_ble_eq_true rfl) (Nat.le_of_ble_eq_true rfl) (Nat.le_of_ble_eq_true rfl) (Nat.le_of_ble_eq_true rfl) ?_ (fun _ _ z => z.elim)
    refine v_if_neB F (pc := 19) (b := (cdd ((σ 14) k) 0)) 48 dX5_isDarkAt_19 (by decide) (fun c_8 => ?_) (fun c_8 => ?_)
    · refine v_iconst F (pc := 48) dX5_isDarkAt_48 ?_
      refine v_iret F (pc := 49) (z := (iI (0))) dX5_isDarkAt_49 rfl (by first | rfl | exact nar_bI _ | decide) (Nat.le_of_ble_eq_true rfl) (Nat.le_of_ble_eq_true rfl) ?_
      exact ⟨congrArg (fun z => some (Value.int (iI z))) (show (0 : Int) = bI (m_dark σ k) by simp only [m_dark, bI, Bool.and_eq_true, Bool.or_eq_true, Bool.not_eq_true, decide_eq_true_eq, decide_eq_false_iff_not, decide_not]; split <;> first | omega | simp_all), rfl⟩
    · refine v_aload_n F (pc := 22) dX5_isDarkAt_22 rfl ?_
      refine v_getf F (pc := 23) fd_X5_31_8 (v := .ref (P 9)) dX5_isDarkAt_23 (mh_0 hP) rfl ?_
      refine v_iconst F (pc := 26) dX5_isDarkAt_26 ?_
      refine v_zald F (pc := 27) (n := 2) (f := σ 9) (z := 1) dX5_isDarkAt_27 (mh_9 hP) (by omega) (by decide) ?_
      have b_9 : (0 : Int) ≤ (σ 9) 1 ∧ (σ 9) 1 ≤ (1 : Int) := hB 9 1 (by omega) (show 1 < (2 : Int) by omega)
      refine v_if_ne F (pc := 28) (a := (σ 9) 1) 44 dX5_isDarkAt_28 (by decide) (by omega) (fun c_10 => ?_) (fun c_10 => ?_)
      · have e1_ : σ 9 1 = 1 := by omega
        refine v_iconst F (pc := 44) dX5_isDarkAt_44 ?_
        refine v_goto F (pc := 45) 49 dX5_isDarkAt_45 (by decide) ?_
        refine v_iret F (pc := 49) (z := (iI (1))) dX5_isDarkAt_49 rfl (by first | rfl | exact nar_bI _ | decide) (Nat.le_of_ble_eq_true rfl) (Nat.le_of_ble_eq_true rfl) ?_
        exact ⟨congrArg (fun z => some (Value.int (iI z))) (show (1 : Int) = bI (m_dark σ k) by simp only [m_dark, bI, Bool.and_eq_true, Bool.or_eq_true, Bool.not_eq_true, decide_eq_true_eq, decide_eq_false_iff_not, decide_not]; split <;> first | omega | simp_all), rfl⟩
      · have e1_ : σ 9 1 = 0 := by omega
        refine v_aload_n F (pc := 31) dX5_isDarkAt_31 rfl ?_
        refine v_getf F (pc := 32) fd_X5_47_8 (v := .ref (P 14)) dX5_isDarkAt_32 (mh_0 hP) rfl ?_
        refine v_iload_n F (pc := 35) dX5_isDarkAt_35 rfl ?_
        refine v_iald F (pc := 36) (n := 60) (f := σ 14) (z := k) dX5_isDarkAt_36 (mh_14 hP) (by omega) (by decide) ?_
        have b_11 : (0 : Int) ≤ (σ 14) k ∧ (σ 14) k ≤ (2 : Int) := hB 14 k (by omega) (show k < (60 : Int) by omega)
        refine v_iconst F (pc := 37) dX5_isDarkAt_37 ?_
        refine v_callSp F (pc := 38) (As := [.int (iI ((σ 14) k)), .int (iI (1))]) (rest := []) ci_X5_76 ct_X5_isCorded (k_X5_isCorded l g ((σ 14) k) 1 (by omega) (by omega)) dX5_isDarkAt_38 rfl rfl (Nat.le_of_ble_eq_true rfl) (Nat.le_of_ble_eq_true rfl) (Nat.le_of_ble_eq_true rfl) (Nat.le_of_ble_eq_true rfl) (Nat.le_of_ble_eq_true rfl) ?_ (fun _ _ z => z.elim)
        refine v_if_neB F (pc := 41) (b := (cdd ((σ 14) k) 1)) 48 dX5_isDarkAt_41 (by decide) (fun c_12 => ?_) (fun c_12 => ?_)
        · refine v_iconst F (pc := 48) dX5_isDarkAt_48 ?_
          refine v_iret F (pc := 49) (z := (iI (0))) dX5_isDarkAt_49 rfl (by first | rfl | exact nar_bI _ | decide) (Nat.le_of_ble_eq_true rfl) (Nat.le_of_ble_eq_true rfl) ?_
          exact ⟨congrArg (fun z => some (Value.int (iI z))) (show (0 : Int) = bI (m_dark σ k) by simp only [m_dark, bI, Bool.and_eq_true, Bool.or_eq_true, Bool.not_eq_true, decide_eq_true_eq, decide_eq_false_iff_not, decide_not]; split <;> first | omega | simp_all), rfl⟩
        · refine v_iconst F (pc := 44) dX5_isDarkAt_44 ?_
          refine v_goto F (pc := 45) 49 dX5_isDarkAt_45 (by decide) ?_
          refine v_iret F (pc := 49) (z := (iI (1))) dX5_isDarkAt_49 rfl (by first | rfl | exact nar_bI _ | decide) (Nat.le_of_ble_eq_true rfl) (Nat.le_of_ble_eq_true rfl) ?_
          exact ⟨congrArg (fun z => some (Value.int (iI z))) (show (1 : Int) = bI (m_dark σ k) by simp only [m_dark, bI, Bool.and_eq_true, Bool.or_eq_true, Bool.not_eq_true, decide_eq_true_eq, decide_eq_false_iff_not, decide_not]; split <;> first | omega | simp_all), rfl⟩
-- X5_inSlot
set_option maxRecDepth 100000 in
set_option maxHeartbeats 8000000 in
theorem k_X5_inSlot (l : Launch) (g : gT) {P : Nat → Nat} {σ : sT} (hP : mok P) (hB : MB σ) (r s : Int) (hr : -2147483648 ≤ r ∧ r ≤ 2147483647) (hs : -2147483648 ≤ s ∧ s ≤ 2147483647) : CM l g yX5_inSlot cX5_inSlot 4 (some .int) ({ frames := 1, cells := 0, slots := 0, locals := 20 }) [.ref (P 0), .int (iI (r)), .int (iI (s))] (mheap g P σ) (pV (some (.int (iI (m_inSlot σ r s)))) (mheap g P σ)) (noX) := by
  refine CM.of (lo := [some (.ref (P 0)), some (.int (iI (r))), some (.int (iI (s))), none]) (by decide) (Nat.le_of_ble_eq_true rfl) (by simp [Value.category]) rfl ?_
  intro pX eX sX mX bX tX cX AX F htab hmn
  have F : Fx pX l sX mX ([.ref (P 0), .int (iI (r)), .int (iI (s))] : List Value).toArray tX cX cX5_inSlot 4 (some .int) RX5 g AX := F
  have bm : (0 : Int) ≤ σ 17 0 ∧ σ 17 0 ≤ (60 : Int) := mb_nm hB
  refine v_iconst F (pc := 0) dX5_inSlot_0 ?_
  refine v_istore_n F (pc := 1) (lo' := [some (.ref (P 0)), some (.int (iI (r))), some (.int (iI (s))), some (.int (iI (0)))]) dX5_inSlot_1 (Nat.le_of_ble_eq_true rfl) rfl ?_
  have LP2 : ∀ (N_ : Nat) (k : Int), (0 ≤ k) → (k ≤ (σ 17 0)) → (∀ j, 0 ≤ j → j < k → (m_ins σ r s) j = false) → ((σ 17 0) - k).toNat < N_ → VE pX l eX ({ frames := 1, cells := 0, slots := 0, locals := 20 }) sX mX ([.ref (P 0), .int (iI (r)), .int (iI (s))] : List Value).toArray bX tX cX 4 g AX (mheap g P σ) 0 0 2 [some (.ref (P 0)), some (.int (iI (r))), some (.int (iI (s))), some (.int (iI (k)))] [] (pV (some (.int (iI (m_inSlot σ r s)))) (mheap g P σ)) (noX) 0 0 := by
    intro N_
    induction N_ with
    | zero => intro k _ _ _ hm_; exact absurd hm_ (Nat.not_lt_zero _)
    | succ N_ ih =>
      intro k hk0 hk1 hno hm_
      refine v_iload_n F (pc := 2) dX5_inSlot_2 rfl ?_
      refine v_aload_n F (pc := 3) dX5_inSlot_3 rfl ?_
      refine v_getf F (pc := 4) fd_X5_73_8 (v := .int (iI (σ 17 0))) dX5_inSlot_4 (mh_0 hP) rfl ?_
      have b_1 : (0 : Int) ≤ σ 17 0 ∧ σ 17 0 ≤ (60 : Int) := hB 17 0 (by decide) (by decide)
      refine v_icmp_ge F (pc := 7) (a := k) (b := σ 17 0) 55 dX5_inSlot_7 (by decide) (by omega) (by omega) (fun c_2 => ?_) (fun c_2 => ?_)
      · refine v_iconst F (pc := 55) dX5_inSlot_55 ?_
        refine v_iret F (pc := 56) (z := (iI (-1))) dX5_inSlot_56 rfl rfl (Nat.le_of_ble_eq_true rfl) (Nat.le_of_ble_eq_true rfl) ?_
        exact ⟨by rw [show m_inSlot σ r s = -1 from ff_none (fun j a b => hno j a (by omega))], rfl⟩
      · refine v_aload_n F (pc := 10) dX5_inSlot_10 rfl ?_
        refine v_getf F (pc := 11) fd_X5_50_8 (v := .ref (P 15)) dX5_inSlot_11 (mh_0 hP) rfl ?_
        refine v_iload_n F (pc := 14) dX5_inSlot_14 rfl ?_
        refine v_iald F (pc := 15) (n := 60) (f := σ 15) (z := k) dX5_inSlot_15 (mh_15 hP) (by omega) (by decide) ?_
        have b_3 : (-1 : Int) ≤ (σ 15) k ∧ (σ 15) k ≤ (7 : Int) := hB 15 k (by omega) (show k < (60 : Int) by omega)
        refine v_iload_n F (pc := 16) dX5_inSlot_16 rfl ?_
        refine v_icmp_ne F (pc := 17) (a := (σ 15) k) (b := r) 49 dX5_inSlot_17 (by decide) (by omega) (by omega) (fun c_4 => ?_) (fun c_4 => ?_)
        · refine v_iinc F (pc := 49) (lo' := [some (.ref (P 0)), some (.int (iI (r))), some (.int (iI (s))), some (.int (iI (k + 1)))]) dX5_inSlot_49 rfl (Nat.le_of_ble_eq_true rfl) rfl ?_
          refine v_goto F (pc := 52) 2 dX5_inSlot_52 (by decide) ?_
          exact ih (k + 1) (by omega) (by omega) (no_s hno (show (m_ins σ r s) k = false by simp only [m_ins, Bool.and_eq_false_iff, Bool.or_eq_false_iff, decide_eq_false_iff_not]; first | omega | simp_all)) (by omega)
        · refine v_iload_n F (pc := 20) dX5_inSlot_20 rfl ?_
          refine v_aload_n F (pc := 21) dX5_inSlot_21 rfl ?_
          refine v_getf F (pc := 22) fd_X5_53_8 (v := .ref (P 16)) dX5_inSlot_22 (mh_0 hP) rfl ?_
          refine v_iload_n F (pc := 25) dX5_inSlot_25 rfl ?_
          refine v_iald F (pc := 26) (n := 60) (f := σ 16) (z := k) dX5_inSlot_26 (mh_16 hP) (by omega) (by decide) ?_
          have b_5 : (0 : Int) ≤ (σ 16) k ∧ (σ 16) k ≤ (19 : Int) := hB 16 k (by omega) (show k < (60 : Int) by omega)
          refine v_icmp_lt F (pc := 27) (a := s) (b := (σ 16) k) 49 dX5_inSlot_27 (by decide) (by omega) (by omega) (fun c_6 => ?_) (fun c_6 => ?_)
          · refine v_iinc F (pc := 49) (lo' := [some (.ref (P 0)), some (.int (iI (r))), some (.int (iI (s))), some (.int (iI (k + 1)))]) dX5_inSlot_49 rfl (Nat.le_of_ble_eq_true rfl) rfl ?_
            refine v_goto F (pc := 52) 2 dX5_inSlot_52 (by decide) ?_
            exact ih (k + 1) (by omega) (by omega) (no_s hno (show (m_ins σ r s) k = false by simp only [m_ins, Bool.and_eq_false_iff, Bool.or_eq_false_iff, decide_eq_false_iff_not]; first | omega | simp_all)) (by omega)
          · refine v_iload_n F (pc := 30) dX5_inSlot_30 rfl ?_
            refine v_aload_n F (pc := 31) dX5_inSlot_31 rfl ?_
            refine v_getf F (pc := 32) fd_X5_53_8 (v := .ref (P 16)) dX5_inSlot_32 (mh_0 hP) rfl ?_
            refine v_iload_n F (pc := 35) dX5_inSlot_35 rfl ?_
            refine v_iald F (pc := 36) (n := 60) (f := σ 16) (z := k) dX5_inSlot_36 (mh_16 hP) (by omega) (by decide) ?_
            have b_7 : (0 : Int) ≤ (σ 16) k ∧ (σ 16) k ≤ (19 : Int) := hB 16 k (by omega) (show k < (60 : Int) by omega)
            refine v_aload_n F (pc := 37) dX5_inSlot_37 rfl ?_
            refine v_getf F (pc := 38) fd_X5_38_8 (v := .ref (P 11)) dX5_inSlot_38 (mh_0 hP) rfl ?_
            refine v_iload_n F (pc := 41) dX5_inSlot_41 rfl ?_
            refine v_iald F (pc := 42) (n := 60) (f := σ 11) (z := k) dX5_inSlot_42 (mh_11 hP) (by omega) (by decide) ?_
            have b_8 : (0 : Int) ≤ (σ 11) k ∧ (σ 11) k ≤ (6 : Int) := hB 11 k (by omega) (show k < (60 : Int) by omega)
            refine v_iadd F (pc := 43) (a := (σ 16) k) (b := (σ 11) k) dX5_inSlot_43 ?_
            refine v_icmp_ge F (pc := 44) (a := s) (b := ((σ 16) k) + ((σ 11) k)) 49 dX5_inSlot_44 (by decide) (by omega) (by omega) (fun c_9 => ?_) (fun c_9 => ?_)
            · refine v_iinc F (pc := 49) (lo' := [some (.ref (P 0)), some (.int (iI (r))), some (.int (iI (s))), some (.int (iI (k + 1)))]) dX5_inSlot_49 rfl (Nat.le_of_ble_eq_true rfl) rfl ?_
              refine v_goto F (pc := 52) 2 dX5_inSlot_52 (by decide) ?_
              exact ih (k + 1) (by omega) (by omega) (no_s hno (show (m_ins σ r s) k = false by simp only [m_ins, Bool.and_eq_false_iff, Bool.or_eq_false_iff, decide_eq_false_iff_not]; first | omega | simp_all)) (by omega)
            · refine v_iload_n F (pc := 47) dX5_inSlot_47 rfl ?_
              refine v_iret F (pc := 48) (z := (iI (k))) dX5_inSlot_48 rfl rfl (Nat.le_of_ble_eq_true rfl) (Nat.le_of_ble_eq_true rfl) ?_
              exact ⟨by rw [show m_inSlot σ r s = k from ff_at hk0 (by omega) (show (m_ins σ r s) k = true by simp only [m_ins, Bool.and_eq_true, Bool.or_eq_true, Bool.not_eq_true, decide_eq_true_eq, decide_eq_false_iff_not, decide_not]; first | omega | simp_all) hno], rfl⟩
  exact LP2 _ 0 (Int.le_refl 0) (by omega) no_0 (Nat.lt_succ_self _)
-- X5_isKind
set_option maxRecDepth 100000 in
set_option maxHeartbeats 8000000 in
theorem k_X5_isKind (l : Launch) (g : gT) {h : fH} (n p w c : Int) (hn : -2147483648 ≤ n ∧ n ≤ 2147483647) (hp : -2147483648 ≤ p ∧ p ≤ 2147483647) (hw : -2147483648 ≤ w ∧ w ≤ 2147483647) (hc : -2147483648 ≤ c ∧ c ≤ 2147483647) : CM l g yX5_isKind cX5_isKind 4 (some .boolean) ({ frames := 2, cells := 0, slots := 0, locals := 42 }) [.int (iI (n)), .int (iI (p)), .int (iI (w)), .int (iI (c))] (h) (pV (some (.int (iI (bI (m_kind n p w c))))) h) (noX) := by
  refine CM.of (lo := [some (.int (iI (n))), some (.int (iI (p))), some (.int (iI (w))), some (.int (iI (c)))]) (by decide) (Nat.le_of_ble_eq_true rfl) (by simp [Value.category]) rfl ?_
  intro pX eX sX mX bX tX cX AX F htab hmn
  have F : Fx pX l sX mX ([.int (iI (n)), .int (iI (p)), .int (iI (w)), .int (iI (c))] : List Value).toArray tX cX cX5_isKind 4 (some .boolean) RX5 g AX := F
  refine v_iload_n F (pc := 0) dX5_isKind_0 rfl ?_
  refine v_iconst F (pc := 1) dX5_isKind_1 ?_
  refine v_bipush F (pc := 2) dX5_isKind_2 (by decide) ?_
  refine v_callSp F (pc := 4) (As := [.int (iI (n)), .int (iI (1)), .int (iI (6))]) (rest := []) ci_X5_69 ct_X5_isIn (k_X5_isIn l g n 1 6 (by omega) (by omega) (by omega)) dX5_isKind_4 rfl rfl (Nat.le_of_ble_eq_true rfl) (Nat.le_of_ble_eq_true rfl) (Nat.le_of_ble_eq_true rfl) (Nat.le_of_ble_eq_true rfl) (Nat.le_of_ble_eq_true rfl) ?_ (fun _ _ z => z.elim)
  refine v_if_eqB F (pc := 7) (b := (inn n 1 6)) 45 dX5_isKind_7 (by decide) (fun c_1 => ?_) (fun c_1 => ?_)
  · refine v_iconst F (pc := 45) dX5_isKind_45 ?_
    refine v_iret F (pc := 46) (z := (iI (0))) dX5_isKind_46 rfl (by first | rfl | exact nar_bI _ | decide) (Nat.le_of_ble_eq_true rfl) (Nat.le_of_ble_eq_true rfl) ?_
    exact ⟨congrArg (fun z => some (Value.int (iI z))) (show (0 : Int) = bI (m_kind n p w c) by simp only [m_kind, bI, Bool.and_eq_true, Bool.or_eq_true, Bool.not_eq_true, decide_eq_true_eq, decide_eq_false_iff_not, decide_not]; split <;> first | omega | simp_all), rfl⟩
  · refine v_iload_n F (pc := 10) dX5_isKind_10 rfl ?_
    refine v_iconst F (pc := 11) dX5_isKind_11 ?_
    refine v_sipush F (pc := 12) dX5_isKind_12 (by decide) ?_
    refine v_callSp F (pc := 15) (As := [.int (iI (p)), .int (iI (0)), .int (iI (2000))]) (rest := []) ci_X5_69 ct_X5_isIn (k_X5_isIn l g p 0 2000 (by omega) (by omega) (by omega)) dX5_isKind_15 rfl rfl (Nat.le_of_ble_eq_true rfl) (Nat.le_of_ble_eq_true rfl) (Nat.le_of_ble_eq_true rfl) (Nat.le_of_ble_eq_true rfl) (Nat.le_of_ble_eq_true rfl) ?_ (fun _ _ z => z.elim)
    refine v_if_eqB F (pc := 18) (b := (inn p 0 2000)) 45 dX5_isKind_18 (by decide) (fun c_2 => ?_) (fun c_2 => ?_)
    · refine v_iconst F (pc := 45) dX5_isKind_45 ?_
      refine v_iret F (pc := 46) (z := (iI (0))) dX5_isKind_46 rfl (by first | rfl | exact nar_bI _ | decide) (Nat.le_of_ble_eq_true rfl) (Nat.le_of_ble_eq_true rfl) ?_
      exact ⟨congrArg (fun z => some (Value.int (iI z))) (show (0 : Int) = bI (m_kind n p w c) by simp only [m_kind, bI, Bool.and_eq_true, Bool.or_eq_true, Bool.not_eq_true, decide_eq_true_eq, decide_eq_false_iff_not, decide_not]; split <;> first | omega | simp_all), rfl⟩
    · refine v_iload_n F (pc := 21) dX5_isKind_21 rfl ?_
      refine v_iconst F (pc := 22) dX5_isKind_22 ?_
      refine v_sipush F (pc := 23) dX5_isKind_23 (by decide) ?_
      refine v_callSp F (pc := 26) (As := [.int (iI (w)), .int (iI (0)), .int (iI (1000))]) (rest := []) ci_X5_69 ct_X5_isIn (k_X5_isIn l g w 0 1000 (by omega) (by omega) (by omega)) dX5_isKind_26 rfl rfl (Nat.le_of_ble_eq_true rfl) (Nat.le_of_ble_eq_true rfl) (Nat.le_of_ble_eq_true rfl) (Nat.le_of_ble_eq_true rfl) (Nat.le_of_ble_eq_true rfl) ?_ (fun _ _ z => z.elim)
      refine v_if_eqB F (pc := 29) (b := (inn w 0 1000)) 45 dX5_isKind_29 (by decide) (fun c_3 => ?_) (fun c_3 => ?_)
      · refine v_iconst F (pc := 45) dX5_isKind_45 ?_
        refine v_iret F (pc := 46) (z := (iI (0))) dX5_isKind_46 rfl (by first | rfl | exact nar_bI _ | decide) (Nat.le_of_ble_eq_true rfl) (Nat.le_of_ble_eq_true rfl) ?_
        exact ⟨congrArg (fun z => some (Value.int (iI z))) (show (0 : Int) = bI (m_kind n p w c) by simp only [m_kind, bI, Bool.and_eq_true, Bool.or_eq_true, Bool.not_eq_true, decide_eq_true_eq, decide_eq_false_iff_not, decide_not]; split <;> first | omega | simp_all), rfl⟩
      · refine v_iload_n F (pc := 32) dX5_isKind_32 rfl ?_
        refine v_iconst F (pc := 33) dX5_isKind_33 ?_
        refine v_iconst F (pc := 34) dX5_isKind_34 ?_
        refine v_callSp F (pc := 35) (As := [.int (iI (c)), .int (iI (0)), .int (iI (2))]) (rest := []) ci_X5_69 ct_X5_isIn (k_X5_isIn l g c 0 2 (by omega) (by omega) (by omega)) dX5_isKind_35 rfl rfl (Nat.le_of_ble_eq_true rfl) (Nat.le_of_ble_eq_true rfl) (Nat.le_of_ble_eq_true rfl) (Nat.le_of_ble_eq_true rfl) (Nat.le_of_ble_eq_true rfl) ?_ (fun _ _ z => z.elim)
        refine v_if_eqB F (pc := 38) (b := (inn c 0 2)) 45 dX5_isKind_38 (by decide) (fun c_4 => ?_) (fun c_4 => ?_)
        · refine v_iconst F (pc := 45) dX5_isKind_45 ?_
          refine v_iret F (pc := 46) (z := (iI (0))) dX5_isKind_46 rfl (by first | rfl | exact nar_bI _ | decide) (Nat.le_of_ble_eq_true rfl) (Nat.le_of_ble_eq_true rfl) ?_
          exact ⟨congrArg (fun z => some (Value.int (iI z))) (show (0 : Int) = bI (m_kind n p w c) by simp only [m_kind, bI, Bool.and_eq_true, Bool.or_eq_true, Bool.not_eq_true, decide_eq_true_eq, decide_eq_false_iff_not, decide_not]; split <;> first | omega | simp_all), rfl⟩
        · refine v_iconst F (pc := 41) dX5_isKind_41 ?_
          refine v_goto F (pc := 42) 46 dX5_isKind_42 (by decide) ?_
          refine v_iret F (pc := 46) (z := (iI (1))) dX5_isKind_46 rfl (by first | rfl | exact nar_bI _ | decide) (Nat.le_of_ble_eq_true rfl) (Nat.le_of_ble_eq_true rfl) ?_
          exact ⟨congrArg (fun z => some (Value.int (iI z))) (show (1 : Int) = bI (m_kind n p w c) by simp only [m_kind, bI, Bool.and_eq_true, Bool.or_eq_true, Bool.not_eq_true, decide_eq_true_eq, decide_eq_false_iff_not, decide_not]; split <;> first | omega | simp_all), rfl⟩
-- X5_way
set_option maxRecDepth 100000 in
set_option maxHeartbeats 8000000 in
theorem k_X5_way (l : Launch) (g : gT) {P : Nat → Nat} {σ : sT} (hP : mok P) (hB : MB σ) (k : Int) (hk : 0 ≤ k ∧ k < 60) : CM l g yX5_way cX5_way 2 (some .int) ({ frames := 1, cells := 0, slots := 0, locals := 20 }) [.ref (P 0), .int (iI (k))] (mheap g P σ) (pV (some (.int (iI (m_way σ k)))) (mheap g P σ)) (noX) := by
  refine CM.of (lo := [some (.ref (P 0)), some (.int (iI (k)))]) (by decide) (Nat.le_of_ble_eq_true rfl) (by simp [Value.category]) rfl ?_
  intro pX eX sX mX bX tX cX AX F htab hmn
  have F : Fx pX l sX mX ([.ref (P 0), .int (iI (k))] : List Value).toArray tX cX cX5_way 2 (some .int) RX5 g AX := F
  refine v_bipush F (pc := 0) dX5_way_0 (by decide) ?_
  refine v_aload_n F (pc := 2) dX5_way_2 rfl ?_
  refine v_getf F (pc := 3) fd_X5_50_8 (v := .ref (P 15)) dX5_way_3 (mh_0 hP) rfl ?_
  refine v_iload_n F (pc := 6) dX5_way_6 rfl ?_
  refine v_iald F (pc := 7) (n := 60) (f := σ 15) (z := k) dX5_way_7 (mh_15 hP) (by omega) (by decide) ?_
  have b_1 : (-1 : Int) ≤ (σ 15) k ∧ (σ 15) k ≤ (7 : Int) := hB 15 k (by omega) (show k < (60 : Int) by omega)
  refine v_imul F (pc := 8) (a := 20) (b := (σ 15) k) dX5_way_8 ?_
  refine v_aload_n F (pc := 9) dX5_way_9 rfl ?_
  refine v_getf F (pc := 10) fd_X5_53_8 (v := .ref (P 16)) dX5_way_10 (mh_0 hP) rfl ?_
  refine v_iload_n F (pc := 13) dX5_way_13 rfl ?_
  refine v_iald F (pc := 14) (n := 60) (f := σ 16) (z := k) dX5_way_14 (mh_16 hP) (by omega) (by decide) ?_
  have b_2 : (0 : Int) ≤ (σ 16) k ∧ (σ 16) k ≤ (19 : Int) := hB 16 k (by omega) (show k < (60 : Int) by omega)
  refine v_iadd F (pc := 15) (a := 20 * ((σ 15) k)) (b := (σ 16) k) dX5_way_15 ?_
  refine v_iret F (pc := 16) (z := (iI ((20 * ((σ 15) k)) + ((σ 16) k)))) dX5_way_16 rfl rfl (Nat.le_of_ble_eq_true rfl) (Nat.le_of_ble_eq_true rfl) ?_
  exact ⟨rfl, rfl⟩
-- X5_takes
set_option maxRecDepth 100000 in
set_option maxHeartbeats 8000000 in
theorem k_X5_takes (l : Launch) (g : gT) {P : Nat → Nat} {σ : sT} (hP : mok P) (hB : MB σ) (k f : Int) (hk : 0 ≤ k ∧ k < 60) (hf : 0 ≤ f ∧ f ≤ 1) : CM l g yX5_takes cX5_takes 4 (some .int) ({ frames := 2, cells := 0, slots := 0, locals := 41 }) [.ref (P 0), .int (iI (k)), .int (iI (f))] (mheap g P σ) (pV (some (.int (iI (m_tk σ k f)))) (mheap g P σ)) (noX) := by
  refine CM.of (lo := [some (.ref (P 0)), some (.int (iI (k))), some (.int (iI (f))), none]) (by decide) (Nat.le_of_ble_eq_true rfl) (by simp [Value.category]) rfl ?_
  intro pX eX sX mX bX tX cX AX F htab hmn
  have F : Fx pX l sX mX ([.ref (P 0), .int (iI (k)), .int (iI (f))] : List Value).toArray tX cX cX5_takes 4 (some .int) RX5 g AX := F
  refine v_aload_n F (pc := 0) dX5_takes_0 rfl ?_
  refine v_getf F (pc := 1) fd_X5_31_8 (v := .ref (P 9)) dX5_takes_1 (mh_0 hP) rfl ?_
  refine v_iload_n F (pc := 4) dX5_takes_4 rfl ?_
  refine v_zald F (pc := 5) (n := 2) (f := σ 9) (z := f) dX5_takes_5 (mh_9 hP) (by omega) (by decide) ?_
  have b_1 : (0 : Int) ≤ (σ 9) f ∧ (σ 9) f ≤ (1 : Int) := hB 9 f (by omega) (show f < (2 : Int) by omega)
  refine v_if_ne F (pc := 6) (a := (σ 9) f) 22 dX5_takes_6 (by decide) (by omega) (fun c_2 => ?_) (fun c_2 => ?_)
  · refine v_iconst F (pc := 22) dX5_takes_22 ?_
    refine v_iret F (pc := 23) (z := (iI (0))) dX5_takes_23 rfl rfl (Nat.le_of_ble_eq_true rfl) (Nat.le_of_ble_eq_true rfl) ?_
    exact ⟨congrArg (fun z => some (Value.int (iI z))) (show (0 : Int) = m_tk σ k f by simp only [m_tk]; (repeat' split) <;> first | omega | simp_all), rfl⟩
  · refine v_aload_n F (pc := 9) dX5_takes_9 rfl ?_
    refine v_getf F (pc := 10) fd_X5_47_8 (v := .ref (P 14)) dX5_takes_10 (mh_0 hP) rfl ?_
    refine v_iload_n F (pc := 13) dX5_takes_13 rfl ?_
    refine v_iald F (pc := 14) (n := 60) (f := σ 14) (z := k) dX5_takes_14 (mh_14 hP) (by omega) (by decide) ?_
    have b_3 : (0 : Int) ≤ (σ 14) k ∧ (σ 14) k ≤ (2 : Int) := hB 14 k (by omega) (show k < (60 : Int) by omega)
    refine v_iload_n F (pc := 15) dX5_takes_15 rfl ?_
    refine v_callSp F (pc := 16) (As := [.int (iI ((σ 14) k)), .int (iI (f))]) (rest := []) ci_X5_76 ct_X5_isCorded (k_X5_isCorded l g ((σ 14) k) f (by omega) (by omega)) dX5_takes_16 rfl rfl (Nat.le_of_ble_eq_true rfl) (Nat.le_of_ble_eq_true rfl) (Nat.le_of_ble_eq_true rfl) (Nat.le_of_ble_eq_true rfl) (Nat.le_of_ble_eq_true rfl) ?_ (fun _ _ z => z.elim)
    refine v_if_neB F (pc := 19) (b := (cdd ((σ 14) k) f)) 24 dX5_takes_19 (by decide) (fun c_4 => ?_) (fun c_4 => ?_)
    · refine v_aload_n F (pc := 24) dX5_takes_24 rfl ?_
      refine v_getf F (pc := 25) fd_X5_47_8 (v := .ref (P 14)) dX5_takes_25 (mh_0 hP) rfl ?_
      refine v_iload_n F (pc := 28) dX5_takes_28 rfl ?_
      refine v_iald F (pc := 29) (n := 60) (f := σ 14) (z := k) dX5_takes_29 (mh_14 hP) (by omega) (by decide) ?_
      have b_5 : (0 : Int) ≤ (σ 14) k ∧ (σ 14) k ≤ (2 : Int) := hB 14 k (by omega) (show k < (60 : Int) by omega)
      refine v_iconst F (pc := 30) dX5_takes_30 ?_
      refine v_icmp_ne F (pc := 31) (a := (σ 14) k) (b := 2) 49 dX5_takes_31 (by decide) (by omega) (by omega) (fun c_6 => ?_) (fun c_6 => ?_)
      · refine v_iconst F (pc := 49) dX5_takes_49 ?_
        refine v_istore_n F (pc := 50) (lo' := [some (.ref (P 0)), some (.int (iI (k))), some (.int (iI (f))), some (.int (iI (0)))]) dX5_takes_50 (Nat.le_of_ble_eq_true rfl) rfl ?_
        refine v_iload_n F (pc := 51) dX5_takes_51 rfl ?_
        refine v_if_ne F (pc := 52) (a := 0) 64 dX5_takes_52 (by decide) (by omega) (fun c_7 => ?_) (fun c_7 => ?_)
        · exact absurd c_7 (by decide)
        · refine v_aload_n F (pc := 55) dX5_takes_55 rfl ?_
          refine v_getf F (pc := 56) fd_X5_41_8 (v := .ref (P 12)) dX5_takes_56 (mh_0 hP) rfl ?_
          refine v_iload_n F (pc := 59) dX5_takes_59 rfl ?_
          refine v_iald F (pc := 60) (n := 60) (f := σ 12) (z := k) dX5_takes_60 (mh_12 hP) (by omega) (by decide) ?_
          have b_8 : (0 : Int) ≤ (σ 12) k ∧ (σ 12) k ≤ (2000 : Int) := hB 12 k (by omega) (show k < (60 : Int) by omega)
          refine v_goto F (pc := 61) 89 dX5_takes_61 (by decide) ?_
          refine v_iret F (pc := 89) (z := (iI ((σ 12) k))) dX5_takes_89 rfl rfl (Nat.le_of_ble_eq_true rfl) (Nat.le_of_ble_eq_true rfl) ?_
          exact ⟨congrArg (fun z => some (Value.int (iI z))) (show ((σ 12) k : Int) = m_tk σ k f by simp only [m_tk]; (repeat' split) <;> first | omega | simp_all), rfl⟩
      · refine v_aload_n F (pc := 34) dX5_takes_34 rfl ?_
        refine v_getf F (pc := 35) fd_X5_31_8 (v := .ref (P 9)) dX5_takes_35 (mh_0 hP) rfl ?_
        refine v_iconst F (pc := 38) dX5_takes_38 ?_
        refine v_iload_n F (pc := 39) dX5_takes_39 rfl ?_
        refine v_isub F (pc := 40) (a := 1) (b := f) dX5_takes_40 ?_
        refine v_zald F (pc := 41) (n := 2) (f := σ 9) (z := 1 - f) dX5_takes_41 (mh_9 hP) (by omega) (by decide) ?_
        have b_9 : (0 : Int) ≤ (σ 9) (1 - f) ∧ (σ 9) (1 - f) ≤ (1 : Int) := hB 9 (1 - f) (by omega) (show 1 - f < (2 : Int) by omega)
        refine v_if_ne F (pc := 42) (a := (σ 9) (1 - f)) 49 dX5_takes_42 (by decide) (by omega) (fun c_10 => ?_) (fun c_10 => ?_)
        · refine v_iconst F (pc := 49) dX5_takes_49 ?_
          refine v_istore_n F (pc := 50) (lo' := [some (.ref (P 0)), some (.int (iI (k))), some (.int (iI (f))), some (.int (iI (0)))]) dX5_takes_50 (Nat.le_of_ble_eq_true rfl) rfl ?_
          refine v_iload_n F (pc := 51) dX5_takes_51 rfl ?_
          refine v_if_ne F (pc := 52) (a := 0) 64 dX5_takes_52 (by decide) (by omega) (fun c_11 => ?_) (fun c_11 => ?_)
          · exact absurd c_11 (by decide)
          · refine v_aload_n F (pc := 55) dX5_takes_55 rfl ?_
            refine v_getf F (pc := 56) fd_X5_41_8 (v := .ref (P 12)) dX5_takes_56 (mh_0 hP) rfl ?_
            refine v_iload_n F (pc := 59) dX5_takes_59 rfl ?_
            refine v_iald F (pc := 60) (n := 60) (f := σ 12) (z := k) dX5_takes_60 (mh_12 hP) (by omega) (by decide) ?_
            have b_12 : (0 : Int) ≤ (σ 12) k ∧ (σ 12) k ≤ (2000 : Int) := hB 12 k (by omega) (show k < (60 : Int) by omega)
            refine v_goto F (pc := 61) 89 dX5_takes_61 (by decide) ?_
            refine v_iret F (pc := 89) (z := (iI ((σ 12) k))) dX5_takes_89 rfl rfl (Nat.le_of_ble_eq_true rfl) (Nat.le_of_ble_eq_true rfl) ?_
            exact ⟨congrArg (fun z => some (Value.int (iI z))) (show ((σ 12) k : Int) = m_tk σ k f by simp only [m_tk]; (repeat' split) <;> first | omega | simp_all), rfl⟩
        · refine v_iconst F (pc := 45) dX5_takes_45 ?_
          refine v_goto F (pc := 46) 50 dX5_takes_46 (by decide) ?_
          refine v_istore_n F (pc := 50) (lo' := [some (.ref (P 0)), some (.int (iI (k))), some (.int (iI (f))), some (.int (iI (1)))]) dX5_takes_50 (Nat.le_of_ble_eq_true rfl) rfl ?_
          refine v_iload_n F (pc := 51) dX5_takes_51 rfl ?_
          refine v_if_ne F (pc := 52) (a := 1) 64 dX5_takes_52 (by decide) (by omega) (fun c_13 => ?_) (fun c_13 => ?_)
          · refine v_iload_n F (pc := 64) dX5_takes_64 rfl ?_
            refine v_if_ne F (pc := 65) (a := f) 81 dX5_takes_65 (by decide) (by omega) (fun c_14 => ?_) (fun c_14 => ?_)
            · refine v_aload_n F (pc := 81) dX5_takes_81 rfl ?_
              refine v_getf F (pc := 82) fd_X5_41_8 (v := .ref (P 12)) dX5_takes_82 (mh_0 hP) rfl ?_
              refine v_iload_n F (pc := 85) dX5_takes_85 rfl ?_
              refine v_iald F (pc := 86) (n := 60) (f := σ 12) (z := k) dX5_takes_86 (mh_12 hP) (by omega) (by decide) ?_
              have b_15 : (0 : Int) ≤ (σ 12) k ∧ (σ 12) k ≤ (2000 : Int) := hB 12 k (by omega) (show k < (60 : Int) by omega)
              refine v_iconst F (pc := 87) dX5_takes_87 ?_
              refine v_idiv F (pc := 88) (a := (σ 12) k) (b := 2) dX5_takes_88 (by omega) (by omega) ?_
              refine v_iret F (pc := 89) (z := (iI (((σ 12) k) / 2))) dX5_takes_89 rfl rfl (Nat.le_of_ble_eq_true rfl) (Nat.le_of_ble_eq_true rfl) ?_
              exact ⟨congrArg (fun z => some (Value.int (iI z))) (show (((σ 12) k) / 2 : Int) = m_tk σ k f by simp only [m_tk]; (repeat' split) <;> first | omega | simp_all), rfl⟩
            · refine v_aload_n F (pc := 68) dX5_takes_68 rfl ?_
              refine v_getf F (pc := 69) fd_X5_41_8 (v := .ref (P 12)) dX5_takes_69 (mh_0 hP) rfl ?_
              refine v_iload_n F (pc := 72) dX5_takes_72 rfl ?_
              refine v_iald F (pc := 73) (n := 60) (f := σ 12) (z := k) dX5_takes_73 (mh_12 hP) (by omega) (by decide) ?_
              have b_16 : (0 : Int) ≤ (σ 12) k ∧ (σ 12) k ≤ (2000 : Int) := hB 12 k (by omega) (show k < (60 : Int) by omega)
              refine v_iconst F (pc := 74) dX5_takes_74 ?_
              refine v_iadd F (pc := 75) (a := (σ 12) k) (b := 1) dX5_takes_75 ?_
              refine v_iconst F (pc := 76) dX5_takes_76 ?_
              refine v_idiv F (pc := 77) (a := ((σ 12) k) + 1) (b := 2) dX5_takes_77 (by omega) (by omega) ?_
              refine v_goto F (pc := 78) 89 dX5_takes_78 (by decide) ?_
              refine v_iret F (pc := 89) (z := (iI ((((σ 12) k) + 1) / 2))) dX5_takes_89 rfl rfl (Nat.le_of_ble_eq_true rfl) (Nat.le_of_ble_eq_true rfl) ?_
              exact ⟨congrArg (fun z => some (Value.int (iI z))) (show ((((σ 12) k) + 1) / 2 : Int) = m_tk σ k f by simp only [m_tk]; (repeat' split) <;> first | omega | simp_all), rfl⟩
          · exact absurd c_13 (by decide)
    · refine v_iconst F (pc := 22) dX5_takes_22 ?_
      refine v_iret F (pc := 23) (z := (iI (0))) dX5_takes_23 rfl rfl (Nat.le_of_ble_eq_true rfl) (Nat.le_of_ble_eq_true rfl) ?_
      exact ⟨congrArg (fun z => some (Value.int (iI z))) (show (0 : Int) = m_tk σ k f by simp only [m_tk]; (repeat' split) <;> first | omega | simp_all), rfl⟩
-- X5_isAhead
set_option maxRecDepth 100000 in
set_option maxHeartbeats 8000000 in
theorem k_X5_isAhead (l : Launch) (g : gT) {P : Nat → Nat} {σ : sT} (hP : mok P) (hB : MB σ) (k e : Int) (hk : 0 ≤ k ∧ k < 60) (he : 0 ≤ e ∧ e < 60) : CM l g yX5_isAhead cX5_isAhead 3 (some .boolean) ({ frames := 1, cells := 0, slots := 0, locals := 20 }) [.ref (P 0), .int (iI (k)), .int (iI (e))] (mheap g P σ) (pV (some (.int (iI (bI (m_ahead σ k e))))) (mheap g P σ)) (noX) := by
  refine CM.of (lo := [some (.ref (P 0)), some (.int (iI (k))), some (.int (iI (e)))]) (by decide) (Nat.le_of_ble_eq_true rfl) (by simp [Value.category]) rfl ?_
  intro pX eX sX mX bX tX cX AX F htab hmn
  have F : Fx pX l sX mX ([.ref (P 0), .int (iI (k)), .int (iI (e))] : List Value).toArray tX cX cX5_isAhead 3 (some .boolean) RX5 g AX := F
  refine v_aload_n F (pc := 0) dX5_isAhead_0 rfl ?_
  refine v_getf F (pc := 1) fd_X5_38_8 (v := .ref (P 11)) dX5_isAhead_1 (mh_0 hP) rfl ?_
  refine v_iload_n F (pc := 4) dX5_isAhead_4 rfl ?_
  refine v_iald F (pc := 5) (n := 60) (f := σ 11) (z := k) dX5_isAhead_5 (mh_11 hP) (by omega) (by decide) ?_
  have b_1 : (0 : Int) ≤ (σ 11) k ∧ (σ 11) k ≤ (6 : Int) := hB 11 k (by omega) (show k < (60 : Int) by omega)
  refine v_aload_n F (pc := 6) dX5_isAhead_6 rfl ?_
  refine v_getf F (pc := 7) fd_X5_38_8 (v := .ref (P 11)) dX5_isAhead_7 (mh_0 hP) rfl ?_
  refine v_iload_n F (pc := 10) dX5_isAhead_10 rfl ?_
  refine v_iald F (pc := 11) (n := 60) (f := σ 11) (z := e) dX5_isAhead_11 (mh_11 hP) (by omega) (by decide) ?_
  have b_2 : (0 : Int) ≤ (σ 11) e ∧ (σ 11) e ≤ (6 : Int) := hB 11 e (by omega) (show e < (60 : Int) by omega)
  refine v_icmp_gt F (pc := 12) (a := (σ 11) k) (b := (σ 11) e) 75 dX5_isAhead_12 (by decide) (by omega) (by omega) (fun c_3 => ?_) (fun c_3 => ?_)
  · refine v_iconst F (pc := 75) dX5_isAhead_75 ?_
    refine v_goto F (pc := 76) 80 dX5_isAhead_76 (by decide) ?_
    refine v_iret F (pc := 80) (z := (iI (1))) dX5_isAhead_80 rfl (by first | rfl | exact nar_bI _ | decide) (Nat.le_of_ble_eq_true rfl) (Nat.le_of_ble_eq_true rfl) ?_
    exact ⟨congrArg (fun z => some (Value.int (iI z))) (show (1 : Int) = bI (m_ahead σ k e) by simp only [m_ahead, bI, Bool.and_eq_true, Bool.or_eq_true, Bool.not_eq_true, decide_eq_true_eq, decide_eq_false_iff_not, decide_not]; split <;> first | omega | simp_all), rfl⟩
  · refine v_aload_n F (pc := 15) dX5_isAhead_15 rfl ?_
    refine v_getf F (pc := 16) fd_X5_38_8 (v := .ref (P 11)) dX5_isAhead_16 (mh_0 hP) rfl ?_
    refine v_iload_n F (pc := 19) dX5_isAhead_19 rfl ?_
    refine v_iald F (pc := 20) (n := 60) (f := σ 11) (z := k) dX5_isAhead_20 (mh_11 hP) (by omega) (by decide) ?_
    have b_4 : (0 : Int) ≤ (σ 11) k ∧ (σ 11) k ≤ (6 : Int) := hB 11 k (by omega) (show k < (60 : Int) by omega)
    refine v_aload_n F (pc := 21) dX5_isAhead_21 rfl ?_
    refine v_getf F (pc := 22) fd_X5_38_8 (v := .ref (P 11)) dX5_isAhead_22 (mh_0 hP) rfl ?_
    refine v_iload_n F (pc := 25) dX5_isAhead_25 rfl ?_
    refine v_iald F (pc := 26) (n := 60) (f := σ 11) (z := e) dX5_isAhead_26 (mh_11 hP) (by omega) (by decide) ?_
    have b_5 : (0 : Int) ≤ (σ 11) e ∧ (σ 11) e ≤ (6 : Int) := hB 11 e (by omega) (show e < (60 : Int) by omega)
    refine v_icmp_ne F (pc := 27) (a := (σ 11) k) (b := (σ 11) e) 79 dX5_isAhead_27 (by decide) (by omega) (by omega) (fun c_6 => ?_) (fun c_6 => ?_)
    · refine v_iconst F (pc := 79) dX5_isAhead_79 ?_
      refine v_iret F (pc := 80) (z := (iI (0))) dX5_isAhead_80 rfl (by first | rfl | exact nar_bI _ | decide) (Nat.le_of_ble_eq_true rfl) (Nat.le_of_ble_eq_true rfl) ?_
      exact ⟨congrArg (fun z => some (Value.int (iI z))) (show (0 : Int) = bI (m_ahead σ k e) by simp only [m_ahead, bI, Bool.and_eq_true, Bool.or_eq_true, Bool.not_eq_true, decide_eq_true_eq, decide_eq_false_iff_not, decide_not]; split <;> first | omega | simp_all), rfl⟩
    · refine v_aload_n F (pc := 30) dX5_isAhead_30 rfl ?_
      refine v_getf F (pc := 31) fd_X5_41_8 (v := .ref (P 12)) dX5_isAhead_31 (mh_0 hP) rfl ?_
      refine v_iload_n F (pc := 34) dX5_isAhead_34 rfl ?_
      refine v_iald F (pc := 35) (n := 60) (f := σ 12) (z := k) dX5_isAhead_35 (mh_12 hP) (by omega) (by decide) ?_
      have b_7 : (0 : Int) ≤ (σ 12) k ∧ (σ 12) k ≤ (2000 : Int) := hB 12 k (by omega) (show k < (60 : Int) by omega)
      refine v_aload_n F (pc := 36) dX5_isAhead_36 rfl ?_
      refine v_getf F (pc := 37) fd_X5_41_8 (v := .ref (P 12)) dX5_isAhead_37 (mh_0 hP) rfl ?_
      refine v_iload_n F (pc := 40) dX5_isAhead_40 rfl ?_
      refine v_iald F (pc := 41) (n := 60) (f := σ 12) (z := e) dX5_isAhead_41 (mh_12 hP) (by omega) (by decide) ?_
      have b_8 : (0 : Int) ≤ (σ 12) e ∧ (σ 12) e ≤ (2000 : Int) := hB 12 e (by omega) (show e < (60 : Int) by omega)
      refine v_icmp_gt F (pc := 42) (a := (σ 12) k) (b := (σ 12) e) 75 dX5_isAhead_42 (by decide) (by omega) (by omega) (fun c_9 => ?_) (fun c_9 => ?_)
      · refine v_iconst F (pc := 75) dX5_isAhead_75 ?_
        refine v_goto F (pc := 76) 80 dX5_isAhead_76 (by decide) ?_
        refine v_iret F (pc := 80) (z := (iI (1))) dX5_isAhead_80 rfl (by first | rfl | exact nar_bI _ | decide) (Nat.le_of_ble_eq_true rfl) (Nat.le_of_ble_eq_true rfl) ?_
        exact ⟨congrArg (fun z => some (Value.int (iI z))) (show (1 : Int) = bI (m_ahead σ k e) by simp only [m_ahead, bI, Bool.and_eq_true, Bool.or_eq_true, Bool.not_eq_true, decide_eq_true_eq, decide_eq_false_iff_not, decide_not]; split <;> first | omega | simp_all), rfl⟩
      · refine v_aload_n F (pc := 45) dX5_isAhead_45 rfl ?_
        refine v_getf F (pc := 46) fd_X5_41_8 (v := .ref (P 12)) dX5_isAhead_46 (mh_0 hP) rfl ?_
        refine v_iload_n F (pc := 49) dX5_isAhead_49 rfl ?_
        refine v_iald F (pc := 50) (n := 60) (f := σ 12) (z := k) dX5_isAhead_50 (mh_12 hP) (by omega) (by decide) ?_
        have b_10 : (0 : Int) ≤ (σ 12) k ∧ (σ 12) k ≤ (2000 : Int) := hB 12 k (by omega) (show k < (60 : Int) by omega)
        refine v_aload_n F (pc := 51) dX5_isAhead_51 rfl ?_
        refine v_getf F (pc := 52) fd_X5_41_8 (v := .ref (P 12)) dX5_isAhead_52 (mh_0 hP) rfl ?_
        refine v_iload_n F (pc := 55) dX5_isAhead_55 rfl ?_
        refine v_iald F (pc := 56) (n := 60) (f := σ 12) (z := e) dX5_isAhead_56 (mh_12 hP) (by omega) (by decide) ?_
        have b_11 : (0 : Int) ≤ (σ 12) e ∧ (σ 12) e ≤ (2000 : Int) := hB 12 e (by omega) (show e < (60 : Int) by omega)
        refine v_icmp_ne F (pc := 57) (a := (σ 12) k) (b := (σ 12) e) 79 dX5_isAhead_57 (by decide) (by omega) (by omega) (fun c_12 => ?_) (fun c_12 => ?_)
        · refine v_iconst F (pc := 79) dX5_isAhead_79 ?_
          refine v_iret F (pc := 80) (z := (iI (0))) dX5_isAhead_80 rfl (by first | rfl | exact nar_bI _ | decide) (Nat.le_of_ble_eq_true rfl) (Nat.le_of_ble_eq_true rfl) ?_
          exact ⟨congrArg (fun z => some (Value.int (iI z))) (show (0 : Int) = bI (m_ahead σ k e) by simp only [m_ahead, bI, Bool.and_eq_true, Bool.or_eq_true, Bool.not_eq_true, decide_eq_true_eq, decide_eq_false_iff_not, decide_not]; split <;> first | omega | simp_all), rfl⟩
        · refine v_aload_n F (pc := 60) dX5_isAhead_60 rfl ?_
          refine v_getf F (pc := 61) fd_X5_35_8 (v := .ref (P 10)) dX5_isAhead_61 (mh_0 hP) rfl ?_
          refine v_iload_n F (pc := 64) dX5_isAhead_64 rfl ?_
          refine v_iald F (pc := 65) (n := 60) (f := σ 10) (z := k) dX5_isAhead_65 (mh_10 hP) (by omega) (by decide) ?_
          have b_13 : (0 : Int) ≤ (σ 10) k ∧ (σ 10) k ≤ (1000000 : Int) := hB 10 k (by omega) (show k < (60 : Int) by omega)
          refine v_aload_n F (pc := 66) dX5_isAhead_66 rfl ?_
          refine v_getf F (pc := 67) fd_X5_35_8 (v := .ref (P 10)) dX5_isAhead_67 (mh_0 hP) rfl ?_
          refine v_iload_n F (pc := 70) dX5_isAhead_70 rfl ?_
          refine v_iald F (pc := 71) (n := 60) (f := σ 10) (z := e) dX5_isAhead_71 (mh_10 hP) (by omega) (by decide) ?_
          have b_14 : (0 : Int) ≤ (σ 10) e ∧ (σ 10) e ≤ (1000000 : Int) := hB 10 e (by omega) (show e < (60 : Int) by omega)
          refine v_icmp_ge F (pc := 72) (a := (σ 10) k) (b := (σ 10) e) 79 dX5_isAhead_72 (by decide) (by omega) (by omega) (fun c_15 => ?_) (fun c_15 => ?_)
          · refine v_iconst F (pc := 79) dX5_isAhead_79 ?_
            refine v_iret F (pc := 80) (z := (iI (0))) dX5_isAhead_80 rfl (by first | rfl | exact nar_bI _ | decide) (Nat.le_of_ble_eq_true rfl) (Nat.le_of_ble_eq_true rfl) ?_
            exact ⟨congrArg (fun z => some (Value.int (iI z))) (show (0 : Int) = bI (m_ahead σ k e) by simp only [m_ahead, bI, Bool.and_eq_true, Bool.or_eq_true, Bool.not_eq_true, decide_eq_true_eq, decide_eq_false_iff_not, decide_not]; split <;> first | omega | simp_all), rfl⟩
          · refine v_iconst F (pc := 75) dX5_isAhead_75 ?_
            refine v_goto F (pc := 76) 80 dX5_isAhead_76 (by decide) ?_
            refine v_iret F (pc := 80) (z := (iI (1))) dX5_isAhead_80 rfl (by first | rfl | exact nar_bI _ | decide) (Nat.le_of_ble_eq_true rfl) (Nat.le_of_ble_eq_true rfl) ?_
            exact ⟨congrArg (fun z => some (Value.int (iI z))) (show (1 : Int) = bI (m_ahead σ k e) by simp only [m_ahead, bI, Bool.and_eq_true, Bool.or_eq_true, Bool.not_eq_true, decide_eq_true_eq, decide_eq_false_iff_not, decide_not]; split <;> first | omega | simp_all), rfl⟩
-- X5_within
set_option maxRecDepth 100000 in
set_option maxHeartbeats 8000000 in
theorem k_X5_within (l : Launch) (g : gT) {h : fH} (m q u : Int) (hm : 0 ≤ m ∧ m ≤ 1000) (hq : 0 ≤ q ∧ q ≤ 2147483647) (hu : 0 ≤ u ∧ u ≤ 2000) (hmu : 0 ≤ m * u ∧ m * u ≤ 2000000) : CM l g yX5_within cX5_within 3 (some .int) ({ frames := 1, cells := 0, slots := 0, locals := 20 }) [.int (iI (m)), .int (iI (q)), .int (iI (u))] (h) (pV (some (.int (iI (m_wi m q u)))) h) (noX) := by
  refine CM.of (lo := [some (.int (iI (m))), some (.int (iI (q))), some (.int (iI (u)))]) (by decide) (Nat.le_of_ble_eq_true rfl) (by simp [Value.category]) rfl ?_
  intro pX eX sX mX bX tX cX AX F htab hmn
  have F : Fx pX l sX mX ([.int (iI (m)), .int (iI (q)), .int (iI (u))] : List Value).toArray tX cX cX5_within 3 (some .int) RX5 g AX := F
  refine v_iload_n F (pc := 0) dX5_within_0 rfl ?_
  refine v_if_eq F (pc := 1) (a := u) 11 dX5_within_1 (by decide) (by omega) (fun c_1 => ?_) (fun c_1 => ?_)
  · refine v_iload_n F (pc := 11) dX5_within_11 rfl ?_
    refine v_goto F (pc := 12) 18 dX5_within_12 (by decide) ?_
    refine v_iret F (pc := 18) (z := (iI (m))) dX5_within_18 rfl rfl (Nat.le_of_ble_eq_true rfl) (Nat.le_of_ble_eq_true rfl) ?_
    exact ⟨congrArg (fun z => some (Value.int (iI z))) (show (m : Int) = m_wi m q u by simp only [m_wi]; (repeat' split) <;> first | omega | simp_all), rfl⟩
  · refine v_iload_n F (pc := 4) dX5_within_4 rfl ?_
    refine v_iload_n F (pc := 5) dX5_within_5 rfl ?_
    refine v_imul F (pc := 6) (a := m) (b := u) dX5_within_6 ?_
    refine v_iload_n F (pc := 7) dX5_within_7 rfl ?_
    refine v_icmp_gt F (pc := 8) (a := m * u) (b := q) 15 dX5_within_8 (by decide) (by omega) (by omega) (fun c_2 => ?_) (fun c_2 => ?_)
    · refine v_iload_n F (pc := 15) dX5_within_15 rfl ?_
      refine v_iload_n F (pc := 16) dX5_within_16 rfl ?_
      refine v_idiv F (pc := 17) (a := q) (b := u) dX5_within_17 (by omega) (by omega) ?_
      refine v_iret F (pc := 18) (z := (iI (q / u))) dX5_within_18 rfl rfl (Nat.le_of_ble_eq_true rfl) (Nat.le_of_ble_eq_true rfl) ?_
      exact ⟨congrArg (fun z => some (Value.int (iI z))) (show (q / u : Int) = m_wi m q u by simp only [m_wi]; (repeat' split) <;> first | omega | simp_all), rfl⟩
    · refine v_iload_n F (pc := 11) dX5_within_11 rfl ?_
      refine v_goto F (pc := 12) 18 dX5_within_12 (by decide) ?_
      refine v_iret F (pc := 18) (z := (iI (m))) dX5_within_18 rfl rfl (Nat.le_of_ble_eq_true rfl) (Nat.le_of_ble_eq_true rfl) ?_
      exact ⟨congrArg (fun z => some (Value.int (iI z))) (show (m : Int) = m_wi m q u by simp only [m_wi]; (repeat' split) <;> first | omega | simp_all), rfl⟩
