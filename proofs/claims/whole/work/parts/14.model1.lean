-- X5_isFine
set_option maxRecDepth 100000 in
set_option maxHeartbeats 8000000 in
theorem k_X5_isFine (l : Launch) (g : gT) {P : Nat → Nat} {σ : sT} (hP : mok P) (hB : MB σ) (v : Int) (hv : 0 ≤ v ∧ v ≤ 3) : CM l g yX5_isFine cX5_isFine 2 (some .boolean) ({ frames := 1, cells := 0, slots := 0, locals := 20 }) [.ref (P 0), .int (iI (v))] (mheap g P σ) (pV (some (.int (iI (bI (decide (v = 0)))))) (mheap g P (su σ 0 0 v))) (noX) := by
  refine CM.of (lo := [some (.ref (P 0)), some (.int (iI (v)))]) (by decide) (Nat.le_of_ble_eq_true rfl) (by simp [Value.category]) rfl ?_
  intro pX eX sX mX bX tX cX AX F htab hmn
  have F : Fx pX l sX mX ([.ref (P 0), .int (iI (v))] : List Value).toArray tX cX cX5_isFine 2 (some .boolean) RX5 g AX := F
  refine v_aload_n F (pc := 0) dX5_isFine_0 rfl ?_
  refine v_iload_n F (pc := 1) dX5_isFine_1 rfl ?_
  refine v_putf F (pc := 2) fp_X5_62_8 dX5_isFine_2 (mh_0 hP) rfl rfl (Nat.le_of_ble_eq_true rfl) (h' := mheap g P (su σ 0 0 v)) (mu_0 hP v) ?_
  have hB_1 : MB (su σ 0 0 v) := mb_su hB (show (0 : Int) ≤ v ∧ v ≤ (3 : Int) from by omega)
  refine v_iload_n F (pc := 5) dX5_isFine_5 rfl ?_
  refine v_if_ne F (pc := 6) (a := v) 13 dX5_isFine_6 (by decide) (by omega) (fun c_2 => ?_) (fun c_2 => ?_)
  · refine v_iconst F (pc := 13) dX5_isFine_13 ?_
    refine v_iret F (pc := 14) (z := (iI (0))) dX5_isFine_14 rfl (by first | rfl | exact nar_bI _ | decide) (Nat.le_of_ble_eq_true rfl) (Nat.le_of_ble_eq_true rfl) ?_
    exact ⟨congrArg (fun z => some (Value.int (iI z))) (show (0 : Int) = bI (decide (v = 0)) by simp only [bI, Bool.and_eq_true, Bool.or_eq_true, Bool.not_eq_true, decide_eq_true_eq, decide_eq_false_iff_not, decide_not]; split <;> first | omega | simp_all), rfl⟩
  · refine v_iconst F (pc := 9) dX5_isFine_9 ?_
    refine v_goto F (pc := 10) 14 dX5_isFine_10 (by decide) ?_
    refine v_iret F (pc := 14) (z := (iI (1))) dX5_isFine_14 rfl (by first | rfl | exact nar_bI _ | decide) (Nat.le_of_ble_eq_true rfl) (Nat.le_of_ble_eq_true rfl) ?_
    exact ⟨congrArg (fun z => some (Value.int (iI z))) (show (1 : Int) = bI (decide (v = 0)) by simp only [bI, Bool.and_eq_true, Bool.or_eq_true, Bool.not_eq_true, decide_eq_true_eq, decide_eq_false_iff_not, decide_not]; split <;> first | omega | simp_all), rfl⟩
-- X5_isIn
set_option maxRecDepth 100000 in
set_option maxHeartbeats 8000000 in
theorem k_X5_isIn (l : Launch) (g : gT) {h : fH} (v lo hi : Int) (hv : -2147483648 ≤ v ∧ v ≤ 2147483647) (hlo : -2147483648 ≤ lo ∧ lo ≤ 2147483647) (hhi : -2147483648 ≤ hi ∧ hi ≤ 2147483647) : CM l g yX5_isIn cX5_isIn 3 (some .boolean) ({ frames := 1, cells := 0, slots := 0, locals := 20 }) [.int (iI (v)), .int (iI (lo)), .int (iI (hi))] (h) (pV (some (.int (iI (bI (inn v lo hi))))) h) (noX) := by
  refine CM.of (lo := [some (.int (iI (v))), some (.int (iI (lo))), some (.int (iI (hi)))]) (by decide) (Nat.le_of_ble_eq_true rfl) (by simp [Value.category]) rfl ?_
  intro pX eX sX mX bX tX cX AX F htab hmn
  have F : Fx pX l sX mX ([.int (iI (v)), .int (iI (lo)), .int (iI (hi))] : List Value).toArray tX cX cX5_isIn 3 (some .boolean) RX5 g AX := F
  refine v_iload_n F (pc := 0) dX5_isIn_0 rfl ?_
  refine v_iload_n F (pc := 1) dX5_isIn_1 rfl ?_
  refine v_icmp_lt F (pc := 2) (a := v) (b := lo) 14 dX5_isIn_2 (by decide) (by omega) (by omega) (fun c_1 => ?_) (fun c_1 => ?_)
  · refine v_iconst F (pc := 14) dX5_isIn_14 ?_
    refine v_iret F (pc := 15) (z := (iI (0))) dX5_isIn_15 rfl (by first | rfl | exact nar_bI _ | decide) (Nat.le_of_ble_eq_true rfl) (Nat.le_of_ble_eq_true rfl) ?_
    exact ⟨congrArg (fun z => some (Value.int (iI z))) (show (0 : Int) = bI (inn v lo hi) by simp only [inn, bI, Bool.and_eq_true, Bool.or_eq_true, Bool.not_eq_true, decide_eq_true_eq, decide_eq_false_iff_not, decide_not]; split <;> first | omega | simp_all), rfl⟩
  · refine v_iload_n F (pc := 5) dX5_isIn_5 rfl ?_
    refine v_iload_n F (pc := 6) dX5_isIn_6 rfl ?_
    refine v_icmp_gt F (pc := 7) (a := v) (b := hi) 14 dX5_isIn_7 (by decide) (by omega) (by omega) (fun c_2 => ?_) (fun c_2 => ?_)
    · refine v_iconst F (pc := 14) dX5_isIn_14 ?_
      refine v_iret F (pc := 15) (z := (iI (0))) dX5_isIn_15 rfl (by first | rfl | exact nar_bI _ | decide) (Nat.le_of_ble_eq_true rfl) (Nat.le_of_ble_eq_true rfl) ?_
      exact ⟨congrArg (fun z => some (Value.int (iI z))) (show (0 : Int) = bI (inn v lo hi) by simp only [inn, bI, Bool.and_eq_true, Bool.or_eq_true, Bool.not_eq_true, decide_eq_true_eq, decide_eq_false_iff_not, decide_not]; split <;> first | omega | simp_all), rfl⟩
    · refine v_iconst F (pc := 10) dX5_isIn_10 ?_
      refine v_goto F (pc := 11) 15 dX5_isIn_11 (by decide) ?_
      refine v_iret F (pc := 15) (z := (iI (1))) dX5_isIn_15 rfl (by first | rfl | exact nar_bI _ | decide) (Nat.le_of_ble_eq_true rfl) (Nat.le_of_ble_eq_true rfl) ?_
      exact ⟨congrArg (fun z => some (Value.int (iI z))) (show (1 : Int) = bI (inn v lo hi) by simp only [inn, bI, Bool.and_eq_true, Bool.or_eq_true, Bool.not_eq_true, decide_eq_true_eq, decide_eq_false_iff_not, decide_not]; split <;> first | omega | simp_all), rfl⟩
-- X5_isRack
set_option maxRecDepth 100000 in
set_option maxHeartbeats 8000000 in
theorem k_X5_isRack (l : Launch) (g : gT) {P : Nat → Nat} {σ : sT} (hP : mok P) (hB : MB σ) (r : Int) (hr : -2147483648 ≤ r ∧ r ≤ 2147483647) : CM l g yX5_isRack cX5_isRack 2 (some .boolean) ({ frames := 2, cells := 0, slots := 0, locals := 42 }) [.ref (P 0), .int (iI (r))] (mheap g P σ) (pV (some (.int (iI (bI (inn r 0 (σ 5 0 - 1)))))) (mheap g P σ)) (noX) := by
  refine CM.of (lo := [some (.ref (P 0)), some (.int (iI (r)))]) (by decide) (Nat.le_of_ble_eq_true rfl) (by simp [Value.category]) rfl ?_
  intro pX eX sX mX bX tX cX AX F htab hmn
  have F : Fx pX l sX mX ([.ref (P 0), .int (iI (r))] : List Value).toArray tX cX cX5_isRack 2 (some .boolean) RX5 g AX := F
  refine v_iload_n F (pc := 0) dX5_isRack_0 rfl ?_
  refine v_iconst F (pc := 1) dX5_isRack_1 ?_
  refine v_aload_n F (pc := 2) dX5_isRack_2 rfl ?_
  refine v_getf F (pc := 3) fd_X5_66_8 (v := .int (iI (σ 5 0))) dX5_isRack_3 (mh_0 hP) rfl ?_
  have b_1 : (0 : Int) ≤ σ 5 0 ∧ σ 5 0 ≤ (8 : Int) := hB 5 0 (by decide) (by decide)
  refine v_iconst F (pc := 6) dX5_isRack_6 ?_
  refine v_isub F (pc := 7) (a := σ 5 0) (b := 1) dX5_isRack_7 ?_
  refine v_callSp F (pc := 8) (As := [.int (iI (r)), .int (iI (0)), .int (iI ((σ 5 0) - 1))]) (rest := []) ci_X5_69 ct_X5_isIn (k_X5_isIn l g r 0 ((σ 5 0) - 1) (by omega) (by omega) (by omega)) dX5_isRack_8 rfl rfl (Nat.le_of_ble_eq_true rfl) (Nat.le_of_ble_eq_true rfl) (Nat.le_of_ble_eq_true rfl) (Nat.le_of_ble_eq_true rfl) (Nat.le_of_ble_eq_true rfl) ?_ (fun _ _ z => z.elim)
  refine v_iret F (pc := 11) (z := (iI (bI (inn r 0 ((σ 5 0) - 1))))) dX5_isRack_11 rfl (by first | rfl | exact nar_bI _ | decide) (Nat.le_of_ble_eq_true rfl) (Nat.le_of_ble_eq_true rfl) ?_
  exact ⟨rfl, rfl⟩
-- X5_isCorded
set_option maxRecDepth 100000 in
set_option maxHeartbeats 8000000 in
theorem k_X5_isCorded (l : Launch) (g : gT) {h : fH} (c f : Int) (hc : -2147483648 ≤ c ∧ c ≤ 2147483647) (hf : -2147483648 ≤ f ∧ f ≤ 2147483647) : CM l g yX5_isCorded cX5_isCorded 2 (some .boolean) ({ frames := 1, cells := 0, slots := 0, locals := 20 }) [.int (iI (c)), .int (iI (f))] (h) (pV (some (.int (iI (bI (cdd c f))))) h) (noX) := by
  refine CM.of (lo := [some (.int (iI (c))), some (.int (iI (f)))]) (by decide) (Nat.le_of_ble_eq_true rfl) (by simp [Value.category]) rfl ?_
  intro pX eX sX mX bX tX cX AX F htab hmn
  have F : Fx pX l sX mX ([.int (iI (c)), .int (iI (f))] : List Value).toArray tX cX cX5_isCorded 2 (some .boolean) RX5 g AX := F
  refine v_iload_n F (pc := 0) dX5_isCorded_0 rfl ?_
  refine v_iconst F (pc := 1) dX5_isCorded_1 ?_
  refine v_icmp_eq F (pc := 2) (a := c) (b := 2) 10 dX5_isCorded_2 (by decide) (by omega) (by omega) (fun c_1 => ?_) (fun c_1 => ?_)
  · refine v_iconst F (pc := 10) dX5_isCorded_10 ?_
    refine v_goto F (pc := 11) 15 dX5_isCorded_11 (by decide) ?_
    refine v_iret F (pc := 15) (z := (iI (1))) dX5_isCorded_15 rfl (by first | rfl | exact nar_bI _ | decide) (Nat.le_of_ble_eq_true rfl) (Nat.le_of_ble_eq_true rfl) ?_
    exact ⟨congrArg (fun z => some (Value.int (iI z))) (show (1 : Int) = bI (cdd c f) by simp only [cdd, bI, Bool.and_eq_true, Bool.or_eq_true, Bool.not_eq_true, decide_eq_true_eq, decide_eq_false_iff_not, decide_not]; split <;> first | omega | simp_all), rfl⟩
  · refine v_iload_n F (pc := 5) dX5_isCorded_5 rfl ?_
    refine v_iload_n F (pc := 6) dX5_isCorded_6 rfl ?_
    refine v_icmp_ne F (pc := 7) (a := c) (b := f) 14 dX5_isCorded_7 (by decide) (by omega) (by omega) (fun c_2 => ?_) (fun c_2 => ?_)
    · refine v_iconst F (pc := 14) dX5_isCorded_14 ?_
      refine v_iret F (pc := 15) (z := (iI (0))) dX5_isCorded_15 rfl (by first | rfl | exact nar_bI _ | decide) (Nat.le_of_ble_eq_true rfl) (Nat.le_of_ble_eq_true rfl) ?_
      exact ⟨congrArg (fun z => some (Value.int (iI z))) (show (0 : Int) = bI (cdd c f) by simp only [cdd, bI, Bool.and_eq_true, Bool.or_eq_true, Bool.not_eq_true, decide_eq_true_eq, decide_eq_false_iff_not, decide_not]; split <;> first | omega | simp_all), rfl⟩
    · refine v_iconst F (pc := 10) dX5_isCorded_10 ?_
      refine v_goto F (pc := 11) 15 dX5_isCorded_11 (by decide) ?_
      refine v_iret F (pc := 15) (z := (iI (1))) dX5_isCorded_15 rfl (by first | rfl | exact nar_bI _ | decide) (Nat.le_of_ble_eq_true rfl) (Nat.le_of_ble_eq_true rfl) ?_
      exact ⟨congrArg (fun z => some (Value.int (iI z))) (show (1 : Int) = bI (cdd c f) by simp only [cdd, bI, Bool.and_eq_true, Bool.or_eq_true, Bool.not_eq_true, decide_eq_true_eq, decide_eq_false_iff_not, decide_not]; split <;> first | omega | simp_all), rfl⟩
-- X5_find
set_option maxRecDepth 100000 in
set_option maxHeartbeats 8000000 in
theorem k_X5_find (l : Launch) (g : gT) {P : Nat → Nat} {σ : sT} (hP : mok P) (hB : MB σ) (num : Int) (hnum : -2147483648 ≤ num ∧ num ≤ 2147483647) : CM l g yX5_find cX5_find 3 (some .int) ({ frames := 1, cells := 0, slots := 0, locals := 20 }) [.ref (P 0), .int (iI (num))] (mheap g P σ) (pV (some (.int (iI (m_find σ num)))) (mheap g P σ)) (noX) := by
  refine CM.of (lo := [some (.ref (P 0)), some (.int (iI (num))), none]) (by decide) (Nat.le_of_ble_eq_true rfl) (by simp [Value.category]) rfl ?_
  intro pX eX sX mX bX tX cX AX F htab hmn
  have F : Fx pX l sX mX ([.ref (P 0), .int (iI (num))] : List Value).toArray tX cX cX5_find 3 (some .int) RX5 g AX := F
  have bm : (0 : Int) ≤ σ 17 0 ∧ σ 17 0 ≤ (60 : Int) := hB 17 0 (by decide) (by decide)
  refine v_iconst F (pc := 0) dX5_find_0 ?_
  refine v_istore_n F (pc := 1) (lo' := [some (.ref (P 0)), some (.int (iI (num))), some (.int (iI (0)))]) dX5_find_1 (Nat.le_of_ble_eq_true rfl) rfl ?_
  have LP2 : ∀ (N_ : Nat) (k : Int), (0 ≤ k) → (k ≤ (σ 17 0)) → (∀ j, 0 ≤ j → j < k → (fun k => decide (σ 10 k = num)) j = false) → ((σ 17 0) - k).toNat < N_ → VE pX l eX ({ frames := 1, cells := 0, slots := 0, locals := 20 }) sX mX ([.ref (P 0), .int (iI (num))] : List Value).toArray bX tX cX 3 g AX (mheap g P σ) 0 0 2 [some (.ref (P 0)), some (.int (iI (num))), some (.int (iI (k)))] [] (pV (some (.int (iI (m_find σ num)))) (mheap g P σ)) (noX) 0 0 := by
    intro N_
    induction N_ with
    | zero => intro k _ _ _ hm_; exact absurd hm_ (Nat.not_lt_zero _)
    | succ N_ ih =>
      intro k hk0 hk1 hno hm_
      refine v_iload_n F (pc := 2) dX5_find_2 rfl ?_
      refine v_aload_n F (pc := 3) dX5_find_3 rfl ?_
      refine v_getf F (pc := 4) fd_X5_73_8 (v := .int (iI (σ 17 0))) dX5_find_4 (mh_0 hP) rfl ?_
      have b_1 : (0 : Int) ≤ σ 17 0 ∧ σ 17 0 ≤ (60 : Int) := hB 17 0 (by decide) (by decide)
      refine v_icmp_ge F (pc := 7) (a := k) (b := σ 17 0) 28 dX5_find_7 (by decide) (by omega) (by omega) (fun c_2 => ?_) (fun c_2 => ?_)
      · refine v_iconst F (pc := 28) dX5_find_28 ?_
        refine v_iret F (pc := 29) (z := (iI (-1))) dX5_find_29 rfl rfl (Nat.le_of_ble_eq_true rfl) (Nat.le_of_ble_eq_true rfl) ?_
        exact ⟨by rw [show m_find σ num = -1 from ff_none (fun j a b => hno j a (by omega))], rfl⟩
      · refine v_aload_n F (pc := 10) dX5_find_10 rfl ?_
        refine v_getf F (pc := 11) fd_X5_35_8 (v := .ref (P 10)) dX5_find_11 (mh_0 hP) rfl ?_
        refine v_iload_n F (pc := 14) dX5_find_14 rfl ?_
        refine v_iald F (pc := 15) (n := 60) (f := σ 10) (z := k) dX5_find_15 (mh_10 hP) (by omega) (by decide) ?_
        have b_3 : (0 : Int) ≤ (σ 10) k ∧ (σ 10) k ≤ (1000000 : Int) := hB 10 k (by omega) (show k < (60 : Int) by omega)
        refine v_iload_n F (pc := 16) dX5_find_16 rfl ?_
        refine v_icmp_ne F (pc := 17) (a := (σ 10) k) (b := num) 22 dX5_find_17 (by decide) (by omega) (by omega) (fun c_4 => ?_) (fun c_4 => ?_)
        · refine v_iinc F (pc := 22) (lo' := [some (.ref (P 0)), some (.int (iI (num))), some (.int (iI (k + 1)))]) dX5_find_22 rfl (Nat.le_of_ble_eq_true rfl) rfl ?_
          refine v_goto F (pc := 25) 2 dX5_find_25 (by decide) ?_
          exact ih (k + 1) (by omega) (by omega) (no_s hno (by simp [c_2, c_4])) (by omega)
        · refine v_iload_n F (pc := 20) dX5_find_20 rfl ?_
          refine v_iret F (pc := 21) (z := (iI (k))) dX5_find_21 rfl rfl (Nat.le_of_ble_eq_true rfl) (Nat.le_of_ble_eq_true rfl) ?_
          exact ⟨by rw [show m_find σ num = k from ff_at hk0 (by omega) (by simp [c_2, c_4]) hno], rfl⟩
  exact LP2 _ 0 (Int.le_refl 0) (by omega) no_0 (Nat.lt_succ_self _)
