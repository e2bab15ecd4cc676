-- X4_requireRack
set_option maxRecDepth 100000 in
set_option maxHeartbeats 8000000 in
theorem k_X4_requireRack (l : Launch) (g : gT) {P K : Nat → Nat} {r : Nat → Int → Option Nat} {cp : Nat → Nat} {b b' : Nat} {τ : sT} (hk : cok P K cp) (hb : b = 5 ∨ b = 12) (hb2 : b' = 5 ∨ b' = 12) (hV : CV K r cp τ) (hW : Wb τ b) (hPC : PC r τ) (k : Int) (hkr : -2147483648 ≤ k ∧ k ≤ 2147483647) : CM l g yX4_requireRack cX4_requireRack 2 (some (.object "RackPlanner$Rack")) ({ frames := 10, cells := 1, slots := 6, locals := 140 }) [.ref (P 0), .int (iI (k))] (cheap g P K r cp b b' τ) (fun v h1 => v = some (.ref (ad r 2 k)) ∧ h1 = cheap g P K r cp b b' τ ∧ 0 ≤ k ∧ k < τ 55 0) (fun E h1 => E = "java/lang/IndexOutOfBoundsException" ∧ h1 = cheap g P K r cp b b' τ ∧ ¬ (0 ≤ k ∧ k < τ 55 0)) := by
  refine CM.of (lo := [some (.ref (P 0)), some (.int (iI (k)))]) (by decide) (Nat.le_of_ble_eq_true rfl) (by simp [Value.category]) rfl ?_
  intro pX eX sX mX bX tX cX AX F htab hmn
  have F : Fx pX l sX mX ([.ref (P 0), .int (iI (k))] : List Value).toArray tX cX cX4_requireRack 2 (some (.object "RackPlanner$Rack")) RX4 g AX := F
  have hM := hV.1
  have hR := hV.2.1
  have hL0 := hV.2.2.1
  have hL1 := hV.2.2.2.1
  have hL2 := hV.2.2.2.2.1
  have hS20 := hV.2.2.2.2.2.1
  have hS21 := hV.2.2.2.2.2.2.1
  have hS22 := hV.2.2.2.2.2.2.2.1
  have hS2 := hV.2.2.2.2.2.2.2.2.1
  have hn8 : 0 ≤ τ 55 0 ∧ τ 55 0 ≤ 8 := ⟨hL2.1, hL2.2.2.2.1⟩
  have hn60 : 0 ≤ τ 53 0 ∧ τ 53 0 ≤ 60 := ⟨hL0.1, hL0.2.2.2.1⟩
  have hWb1 := hW.1
  have hWb2 := hW.2.1
  have hWb3 := hW.2.2.1
  have hWb5 := hW.2.2.2.1
  have hWb6 := hW.2.2.2.2
  refine v_iload_n F (pc := 0) dX4_requireRack_0 rfl ?_
  refine v_if_lt F (pc := 1) (a := k) 18 dX4_requireRack_1 (by decide) (by omega) (fun c_1 => ?_) (fun c_1 => ?_)
  · refine v_throw F (pc := 18) (text := "no such rack") fit_IndexOutOfBoundsException th_fit tk_X4_184 ti_IndexOutOfBoundsException (by decide) th_X4_184_188 tg_X4_184_188 htab dX4_requireRack_18 dX4_requireRack_21 dX4_requireRack_22 dX4_requireRack_24 dX4_requireRack_27 (Nat.le_of_ble_eq_true rfl) (Nat.le_of_ble_eq_true rfl) (Nat.le_of_ble_eq_true rfl) (Nat.le_of_ble_eq_true rfl) (Nat.le_of_ble_eq_true rfl) (Nat.le_of_ble_eq_true rfl) ?_
    exact ⟨rfl, rfl, by omega⟩
  · refine v_iload_n F (pc := 4) dX4_requireRack_4 rfl ?_
    refine v_aload_n F (pc := 5) dX4_requireRack_5 rfl ?_
    refine v_getf F (pc := 6) fd_X4_12_7 (v := .ref (P 1)) dX4_requireRack_6 (ch_0 hk) rfl ?_
    refine v_getf F (pc := 9) fd_X4_50_6 (v := .ref (P 19)) dX4_requireRack_9 (ch_1 hk) rfl ?_
    refine v_callVp F (pc := 12) (As := []) (rest := [.int (iI (k))]) ci_X4_53 ct_Jx4a65c_size_8abf5 cs_Jx4a65c_size_8abf5 (k_Jx4a65c_size_8abf5 l g (n := τ 55 0) (ch_19 hk)) dX4_requireRack_12 (k0 := 2) rfl rfl (ch_19 hk) rfl rfl (Nat.le_of_ble_eq_true rfl) (Nat.le_of_ble_eq_true rfl) (Nat.le_of_ble_eq_true rfl) (Nat.le_of_ble_eq_true rfl) (Nat.le_of_ble_eq_true rfl) ?_ (fun _ _ z => z.elim)
    refine v_icmp_lt F (pc := 15) (a := k) (b := τ 55 0) 28 dX4_requireRack_15 (by decide) (by omega) (by omega) (fun c_2 => ?_) (fun c_2 => ?_)
    · refine v_aload_n F (pc := 28) dX4_requireRack_28 rfl ?_
      refine v_getf F (pc := 29) fd_X4_12_7 (v := .ref (P 1)) dX4_requireRack_29 (ch_0 hk) rfl ?_
      refine v_getf F (pc := 32) fd_X4_50_6 (v := .ref (P 19)) dX4_requireRack_32 (ch_1 hk) rfl ?_
      refine v_iload_n F (pc := 35) dX4_requireRack_35 rfl ?_
      refine v_callVp F (pc := 36) (As := [.int (iI (k))]) (rest := []) ci_X4_101 ct_Jx4a65c_get_915e3 cs_Jx4a65c_get_915e3 (kl_get2 l g (τ := τ) (r := r) (cp := cp) hk hL2 (k := k) (by omega) (show (k : Int) < τ 55 0 by omega)) dX4_requireRack_36 (k0 := 2) rfl rfl (ch_19 hk) rfl rfl (Nat.le_of_ble_eq_true rfl) (Nat.le_of_ble_eq_true rfl) (Nat.le_of_ble_eq_true rfl) (Nat.le_of_ble_eq_true rfl) (Nat.le_of_ble_eq_true rfl) ?_ (fun _ _ z => z.elim)
      have kq_3 : K (ad r 2 k) = 2 := (hL2.2.2.2.2 k (by omega) (show (k : Int) < τ 55 0 by omega)).2
      have kq_3b := hR _ kq_3
      refine v_castS F (pc := 39) (ci := 5) rfl tk_X4_64 dX4_requireRack_39 (ch_r hk kq_3) ?_
      refine v_aret F (pc := 42) dX4_requireRack_42 rfl (Or.inl ⟨_, rfl⟩) (Nat.le_of_ble_eq_true rfl) (Nat.le_of_ble_eq_true rfl) ?_
      exact ⟨rfl, rfl, by omega, by omega⟩
    · refine v_throw F (pc := 18) (text := "no such rack") fit_IndexOutOfBoundsException th_fit tk_X4_184 ti_IndexOutOfBoundsException (by decide) th_X4_184_188 tg_X4_184_188 htab dX4_requireRack_18 dX4_requireRack_21 dX4_requireRack_22 dX4_requireRack_24 dX4_requireRack_27 (Nat.le_of_ble_eq_true rfl) (Nat.le_of_ble_eq_true rfl) (Nat.le_of_ble_eq_true rfl) (Nat.le_of_ble_eq_true rfl) (Nat.le_of_ble_eq_true rfl) (Nat.le_of_ble_eq_true rfl) ?_
      exact ⟨rfl, rfl, by omega⟩
-- X4_indexOfPlaced
set_option maxRecDepth 100000 in
set_option maxHeartbeats 8000000 in
theorem k_X4_indexOfPlaced (l : Launch) (g : gT) {P K : Nat → Nat} {r : Nat → Int → Option Nat} {cp : Nat → Nat} {b b' : Nat} {τ : sT} (hk : cok P K cp) (hb : b = 5 ∨ b = 12) (hb2 : b' = 5 ∨ b' = 12) (hV : CV K r cp τ) (hW : Wb τ b) (hPC : PC r τ) (num : Int) (hnum : -2147483648 ≤ num ∧ num ≤ 2147483647) : CM l g yX4_indexOfPlaced cX4_indexOfPlaced 3 (some .int) ({ frames := 10, cells := 1, slots := 6, locals := 140 }) [.ref (P 0), .int (iI (num))] (cheap g P K r cp b b' τ) (fun v h1 => v = some (.int (iI (cIx r τ num))) ∧ h1 = cheap g P K r cp b b' τ ∧ 0 ≤ cIx r τ num ∧ cIx r τ num < τ 53 0) (fun E h1 => E = "java/lang/IndexOutOfBoundsException" ∧ h1 = cheap g P K r cp b b' τ ∧ cIx r τ num = -1) := by
  refine CM.of (lo := [some (.ref (P 0)), some (.int (iI (num))), none]) (by decide) (Nat.le_of_ble_eq_true rfl) (by simp [Value.category]) rfl ?_
  intro pX eX sX mX bX tX cX AX F htab hmn
  have F : Fx pX l sX mX ([.ref (P 0), .int (iI (num))] : List Value).toArray tX cX cX4_indexOfPlaced 3 (some .int) RX4 g AX := F
  have hM := hV.1
  have hR := hV.2.1
  have hL0 := hV.2.2.1
  have hL1 := hV.2.2.2.1
  have hL2 := hV.2.2.2.2.1
  have hS20 := hV.2.2.2.2.2.1
  have hS21 := hV.2.2.2.2.2.2.1
  have hS22 := hV.2.2.2.2.2.2.2.1
  have hS2 := hV.2.2.2.2.2.2.2.2.1
  have hn8 : 0 ≤ τ 55 0 ∧ τ 55 0 ≤ 8 := ⟨hL2.1, hL2.2.2.2.1⟩
  have hn60 : 0 ≤ τ 53 0 ∧ τ 53 0 ≤ 60 := ⟨hL0.1, hL0.2.2.2.1⟩
  have hWb1 := hW.1
  have hWb2 := hW.2.1
  have hWb3 := hW.2.2.1
  have hWb5 := hW.2.2.2.1
  have hWb6 := hW.2.2.2.2
  refine v_iconst F (pc := 0) dX4_indexOfPlaced_0 ?_
  refine v_istore_n F (pc := 1) (lo' := [some (.ref (P 0)), some (.int (iI (num))), some (.int (iI (0)))]) dX4_indexOfPlaced_1 (Nat.le_of_ble_eq_true rfl) rfl ?_
  have LP2 : ∀ (N_ : Nat) (k : Int), (0 ≤ k) → (k ≤ (τ 53 0)) → (∀ j, 0 ≤ j → j < k → decide (τ 30 (ad r 0 j) = num) = false) → ((τ 53 0) - k).toNat < N_ → VE pX l eX ({ frames := 10, cells := 1, slots := 6, locals := 140 }) sX mX ([.ref (P 0), .int (iI (num))] : List Value).toArray bX tX cX 3 g AX (cheap g P K r cp b b' τ) 0 0 2 [some (.ref (P 0)), some (.int (iI (num))), some (.int (iI (k)))] [] (fun v h1 => v = some (.int (iI (cIx r τ num))) ∧ h1 = cheap g P K r cp b b' τ ∧ 0 ≤ cIx r τ num ∧ cIx r τ num < τ 53 0) (fun E h1 => E = "java/lang/IndexOutOfBoundsException" ∧ h1 = cheap g P K r cp b b' τ ∧ cIx r τ num = -1) 1 6 := by
    intro N_
    induction N_ with
    | zero => intro k _ _ _ hm_; exact absurd hm_ (Nat.not_lt_zero _)
    | succ N_ ih =>
      intro k hk0 hk1 hno hm_
      refine v_iload_n F (pc := 2) dX4_indexOfPlaced_2 rfl ?_
      refine v_aload_n F (pc := 3) dX4_indexOfPlaced_3 rfl ?_
      refine v_getf F (pc := 4) fd_X4_23_7 (v := .ref (P 3)) dX4_indexOfPlaced_4 (ch_0 hk) rfl ?_
      refine v_callVp F (pc := 7) (As := []) (rest := [.int (iI (k))]) ci_X4_53 ct_Jx4a65c_size_8abf5 cs_Jx4a65c_size_8abf5 (k_Jx4a65c_size_8abf5 l g (n := τ 53 0) (ch_3 hk)) dX4_indexOfPlaced_7 (k0 := 2) rfl rfl (ch_3 hk) rfl rfl (Nat.le_of_ble_eq_true rfl) (Nat.le_of_ble_eq_true rfl) (Nat.le_of_ble_eq_true rfl) (Nat.le_of_ble_eq_true rfl) (Nat.le_of_ble_eq_true rfl) ?_ (fun _ _ z => z.elim)
      refine v_icmp_ge F (pc := 10) (a := k) (b := τ 53 0) 39 dX4_indexOfPlaced_10 (by decide) (by omega) (by omega) (fun c_1 => ?_) (fun c_1 => ?_)
      · refine v_throw F (pc := 39) (text := "no such machine") fit_IndexOutOfBoundsException th_fit tk_X4_184 ti_IndexOutOfBoundsException (by decide) th_X4_184_188 tg_X4_184_188 htab dX4_indexOfPlaced_39 dX4_indexOfPlaced_42 dX4_indexOfPlaced_43 dX4_indexOfPlaced_45 dX4_indexOfPlaced_48 (Nat.le_of_ble_eq_true rfl) (Nat.le_of_ble_eq_true rfl) (Nat.le_of_ble_eq_true rfl) (Nat.le_of_ble_eq_true rfl) (Nat.le_of_ble_eq_true rfl) (Nat.le_of_ble_eq_true rfl) ?_
        have e8 : cIx r τ num = -1 := ff_none (fun j q1 q2 => hno j q1 (by omega))
        exact ⟨rfl, rfl, e8⟩
      · refine v_aload_n F (pc := 13) dX4_indexOfPlaced_13 rfl ?_
        refine v_getf F (pc := 14) fd_X4_23_7 (v := .ref (P 3)) dX4_indexOfPlaced_14 (ch_0 hk) rfl ?_
        refine v_iload_n F (pc := 17) dX4_indexOfPlaced_17 rfl ?_
        refine v_callVp F (pc := 18) (As := [.int (iI (k))]) (rest := []) ci_X4_101 ct_Jx4a65c_get_915e3 cs_Jx4a65c_get_915e3 (kl_get0 l g (τ := τ) (r := r) (cp := cp) hk hL0 (k := k) (by omega) (show (k : Int) < τ 53 0 by omega)) dX4_indexOfPlaced_18 (k0 := 2) rfl rfl (ch_3 hk) rfl rfl (Nat.le_of_ble_eq_true rfl) (Nat.le_of_ble_eq_true rfl) (Nat.le_of_ble_eq_true rfl) (Nat.le_of_ble_eq_true rfl) (Nat.le_of_ble_eq_true rfl) ?_ (fun _ _ z => z.elim)
        have kq_2 : K (ad r 0 k) = 1 := (hL0.2.2.2.2 k (by omega) (show (k : Int) < τ 53 0 by omega)).2
        have kq_2b := hM _ kq_2
        refine v_castS F (pc := 21) (ci := 4) rfl tk_X4_105 dX4_indexOfPlaced_21 (ch_m hk kq_2) ?_
        refine v_getf F (pc := 24) fd_X4_130_4 (v := .int (iI (τ 30 (ad r 0 k)))) dX4_indexOfPlaced_24 (ch_m hk kq_2) rfl ?_
        refine v_iload_n F (pc := 27) dX4_indexOfPlaced_27 rfl ?_
        refine v_icmp_ne F (pc := 28) (a := τ 30 (ad r 0 k)) (b := num) 33 dX4_indexOfPlaced_28 (by decide) (by omega) (by omega) (fun c_3 => ?_) (fun c_3 => ?_)
        · have hq9 := c_3
          refine v_iinc F (pc := 33) (lo' := [some (.ref (P 0)), some (.int (iI (num))), some (.int (iI (k + 1)))]) dX4_indexOfPlaced_33 rfl (Nat.le_of_ble_eq_true rfl) rfl ?_
          refine v_goto F (pc := 36) 2 dX4_indexOfPlaced_36 (by decide) ?_
          have ih2 := ih (k + 1) (by omega) (by omega) (no_s hno (decide_eq_false hq9)) (by omega)
          exact ih2
        · have hq9 := c_3
          refine v_iload_n F (pc := 31) dX4_indexOfPlaced_31 rfl ?_
          refine v_iret F (pc := 32) (z := (iI (k))) dX4_indexOfPlaced_32 rfl rfl (Nat.le_of_ble_eq_true rfl) (Nat.le_of_ble_eq_true rfl) ?_
          have e8 : cIx r τ num = k := ff_at hk0 (by omega) (decide_eq_true hq9) hno
          exact ⟨by rw [e8], rfl, by omega, by omega⟩
  exact LP2 _ 0 (Int.le_refl _) (by omega) no_0 (Nat.lt_succ_self _)
-- X4_requireMachine
set_option maxRecDepth 100000 in
set_option maxHeartbeats 8000000 in
theorem k_X4_requireMachine (l : Launch) (g : gT) {P K : Nat → Nat} {r : Nat → Int → Option Nat} {cp : Nat → Nat} {b b' : Nat} {τ : sT} (hk : cok P K cp) (hb : b = 5 ∨ b = 12) (hb2 : b' = 5 ∨ b' = 12) (hV : CV K r cp τ) (hW : Wb τ b) (hPC : PC r τ) (num : Int) (hnum : -2147483648 ≤ num ∧ num ≤ 2147483647) : CM l g yX4_requireMachine cX4_requireMachine 2 (some (.object "RackPlanner$Machine")) ({ frames := 11, cells := 1, slots := 6, locals := 162 }) [.ref (P 0), .int (iI (num))] (cheap g P K r cp b b' τ) (fun v h1 => v = some (.ref (ad r 0 (cIx r τ num))) ∧ h1 = cheap g P K r cp b b' τ ∧ 0 ≤ cIx r τ num ∧ cIx r τ num < τ 53 0) (fun E h1 => E = "java/lang/IndexOutOfBoundsException" ∧ h1 = cheap g P K r cp b b' τ ∧ cIx r τ num = -1) := by
  refine CM.of (lo := [some (.ref (P 0)), some (.int (iI (num)))]) (by decide) (Nat.le_of_ble_eq_true rfl) (by simp [Value.category]) rfl ?_
  intro pX eX sX mX bX tX cX AX F htab hmn
  have F : Fx pX l sX mX ([.ref (P 0), .int (iI (num))] : List Value).toArray tX cX cX4_requireMachine 2 (some (.object "RackPlanner$Machine")) RX4 g AX := F
  have hM := hV.1
  have hR := hV.2.1
  have hL0 := hV.2.2.1
  have hL1 := hV.2.2.2.1
  have hL2 := hV.2.2.2.2.1
  have hS20 := hV.2.2.2.2.2.1
  have hS21 := hV.2.2.2.2.2.2.1
  have hS22 := hV.2.2.2.2.2.2.2.1
  have hS2 := hV.2.2.2.2.2.2.2.2.1
  have hn8 : 0 ≤ τ 55 0 ∧ τ 55 0 ≤ 8 := ⟨hL2.1, hL2.2.2.2.1⟩
  have hn60 : 0 ≤ τ 53 0 ∧ τ 53 0 ≤ 60 := ⟨hL0.1, hL0.2.2.2.1⟩
  have hWb1 := hW.1
  have hWb2 := hW.2.1
  have hWb3 := hW.2.2.1
  have hWb5 := hW.2.2.2.1
  have hWb6 := hW.2.2.2.2
  refine v_aload_n F (pc := 0) dX4_requireMachine_0 rfl ?_
  refine v_getf F (pc := 1) fd_X4_23_7 (v := .ref (P 3)) dX4_requireMachine_1 (ch_0 hk) rfl ?_
  refine v_aload_n F (pc := 4) dX4_requireMachine_4 rfl ?_
  refine v_iload_n F (pc := 5) dX4_requireMachine_5 rfl ?_
  refine v_callV F (pc := 6) (As := [.int (iI (num))]) (rest := [.ref (P 3)]) ci_X4_133 ct_X4_indexOfPlaced cs_X4_indexOfPlaced (k_X4_indexOfPlaced l g hk hb hb2 hV hW hPC num (by omega)) dX4_requireMachine_6 (k0 := 7) rfl rfl (ch_0 hk) rfl rfl (Nat.le_of_ble_eq_true rfl) (Nat.le_of_ble_eq_true rfl) (Nat.le_of_ble_eq_true rfl) (Nat.le_of_ble_eq_true rfl) (Nat.le_of_ble_eq_true rfl) (fun v_ h_ hp_ => ?_) (fun E_ h_ hp_ => by obtain ⟨rfl, rfl, hc_⟩ := hp_; exact v_xout F.2.2.2.2.2.1 htab (Nat.le_of_ble_eq_true rfl) (Nat.le_of_ble_eq_true rfl) (⟨rfl, rfl, hc_⟩))
  obtain ⟨rfl, rfl, hix0, hix1⟩ := hp_
  refine v_callVp F (pc := 9) (As := [.int (iI (cIx r τ num))]) (rest := []) ci_X4_101 ct_Jx4a65c_get_915e3 cs_Jx4a65c_get_915e3 (kl_get0 l g (τ := τ) (r := r) (cp := cp) hk hL0 (k := cIx r τ num) (by omega) (show (cIx r τ num : Int) < τ 53 0 by omega)) dX4_requireMachine_9 (k0 := 2) rfl rfl (ch_3 hk) rfl rfl (Nat.le_of_ble_eq_true rfl) (Nat.le_of_ble_eq_true rfl) (Nat.le_of_ble_eq_true rfl) (Nat.le_of_ble_eq_true rfl) (Nat.le_of_ble_eq_true rfl) ?_ (fun _ _ z => z.elim)
  have kq_1 : K (ad r 0 (cIx r τ num)) = 1 := (hL0.2.2.2.2 (cIx r τ num) (by omega) (show (cIx r τ num : Int) < τ 53 0 by omega)).2
  have kq_1b := hM _ kq_1
  refine v_castS F (pc := 12) (ci := 4) rfl tk_X4_105 dX4_requireMachine_12 (ch_m hk kq_1) ?_
  refine v_aret F (pc := 15) dX4_requireMachine_15 rfl (Or.inl ⟨_, rfl⟩) (Nat.le_of_ble_eq_true rfl) (Nat.le_of_ble_eq_true rfl) ?_
  exact ⟨rfl, rfl, hix0, hix1⟩
-- X4_rowOfMachine
set_option maxRecDepth 100000 in
set_option maxHeartbeats 8000000 in
theorem k_X4_rowOfMachine (l : Launch) (g : gT) {P K : Nat → Nat} {r : Nat → Int → Option Nat} {cp : Nat → Nat} {b b' : Nat} {τ : sT} (hk : cok P K cp) (hb : b = 5 ∨ b = 12) (hb2 : b' = 5 ∨ b' = 12) (hV : CV K r cp τ) (hW : Wb τ b) (hPC : PC r τ) {m : Nat} (hm : K m = 1) (hmb : Mb τ m) (hmc : 0 ≤ τ 35 m ∧ τ 35 m / 20 < τ 55 0) : CM l g yX4_rowOfMachine cX4_rowOfMachine 2 (some .int) ({ frames := 4, cells := 0, slots := 0, locals := 84 }) [.ref (P 0), .ref m] (cheap g P K r cp b b' τ) (pV (some (.int (iI (τ 40 (ad r 2 (τ 35 m / 20)))))) (cheap g P K r cp b b' τ)) (noX) := by
  refine CM.of (lo := [some (.ref (P 0)), some (.ref m)]) (by decide) (Nat.le_of_ble_eq_true rfl) (by simp [Value.category]) rfl ?_
  intro pX eX sX mX bX tX cX AX F htab hmn
  have F : Fx pX l sX mX ([.ref (P 0), .ref m] : List Value).toArray tX cX cX4_rowOfMachine 2 (some .int) RX4 g AX := F
  have hM := hV.1
  have hR := hV.2.1
  have hL0 := hV.2.2.1
  have hL1 := hV.2.2.2.1
  have hL2 := hV.2.2.2.2.1
  have hS20 := hV.2.2.2.2.2.1
  have hS21 := hV.2.2.2.2.2.2.1
  have hS22 := hV.2.2.2.2.2.2.2.1
  have hS2 := hV.2.2.2.2.2.2.2.2.1
  have hn8 : 0 ≤ τ 55 0 ∧ τ 55 0 ≤ 8 := ⟨hL2.1, hL2.2.2.2.1⟩
  have hn60 : 0 ≤ τ 53 0 ∧ τ 53 0 ≤ 60 := ⟨hL0.1, hL0.2.2.2.1⟩
  have hWb1 := hW.1
  have hWb2 := hW.2.1
  have hWb3 := hW.2.2.1
  have hWb5 := hW.2.2.2.1
  have hWb6 := hW.2.2.2.2
  refine v_aload_n F (pc := 0) dX4_rowOfMachine_0 rfl ?_
  refine v_getf F (pc := 1) fd_X4_12_7 (v := .ref (P 1)) dX4_rowOfMachine_1 (ch_0 hk) rfl ?_
  refine v_getf F (pc := 4) fd_X4_50_6 (v := .ref (P 19)) dX4_rowOfMachine_4 (ch_1 hk) rfl ?_
  refine v_aload_n F (pc := 7) dX4_rowOfMachine_7 rfl ?_
  refine v_getf F (pc := 8) fd_X4_123_4 (v := .int (iI (τ 35 (m : Nat)))) dX4_rowOfMachine_8 (ch_m hk hm) rfl ?_
  refine v_callSp F (pc := 11) (As := [.int (iI (τ 35 (m : Nat)))]) (rest := [.ref (P 19)]) ci_X4_143 ct_X4_rackOfCell (k_X4_rackOfCell l g (τ 35 (m : Nat)) (by omega)) dX4_rowOfMachine_11 rfl rfl (Nat.le_of_ble_eq_true rfl) (Nat.le_of_ble_eq_true rfl) (Nat.le_of_ble_eq_true rfl) (Nat.le_of_ble_eq_true rfl) (Nat.le_of_ble_eq_true rfl) ?_ (fun _ _ z => z.elim)
  refine v_callVp F (pc := 14) (As := [.int (iI ((τ 35 (m : Nat)) / 20))]) (rest := []) ci_X4_101 ct_Jx4a65c_get_915e3 cs_Jx4a65c_get_915e3 (kl_get2 l g (τ := τ) (r := r) (cp := cp) hk hL2 (k := (τ 35 (m : Nat)) / 20) (by omega) (show ((τ 35 (m : Nat)) / 20 : Int) < τ 55 0 by omega)) dX4_rowOfMachine_14 (k0 := 2) rfl rfl (ch_19 hk) rfl rfl (Nat.le_of_ble_eq_true rfl) (Nat.le_of_ble_eq_true rfl) (Nat.le_of_ble_eq_true rfl) (Nat.le_of_ble_eq_true rfl) (Nat.le_of_ble_eq_true rfl) ?_ (fun _ _ z => z.elim)
  have kq_1 : K (ad r 2 ((τ 35 (m : Nat)) / 20)) = 2 := (hL2.2.2.2.2 ((τ 35 (m : Nat)) / 20) (by omega) (show ((τ 35 (m : Nat)) / 20 : Int) < τ 55 0 by omega)).2
  have kq_1b := hR _ kq_1
  refine v_castS F (pc := 17) (ci := 5) rfl tk_X4_64 dX4_rowOfMachine_17 (ch_r hk kq_1) ?_
  refine v_getf F (pc := 20) fd_X4_253_5 (v := .int (iI (τ 40 (ad r 2 ((τ 35 (m : Nat)) / 20))))) dX4_rowOfMachine_20 (ch_r hk kq_1) rfl ?_
  refine v_iret F (pc := 23) (z := (iI (τ 40 (ad r 2 ((τ 35 (m : Nat)) / 20))))) dX4_rowOfMachine_23 rfl rfl (Nat.le_of_ble_eq_true rfl) (Nat.le_of_ble_eq_true rfl) ?_
  exact ⟨rfl, rfl⟩
-- X4_hasNoFeed
set_option maxRecDepth 100000 in
set_option maxHeartbeats 8000000 in
theorem k_X4_hasNoFeed (l : Launch) (g : gT) {P K : Nat → Nat} {r : Nat → Int → Option Nat} {cp : Nat → Nat} {b b' : Nat} {τ : sT} (hk : cok P K cp) (hb : b = 5 ∨ b = 12) (hb2 : b' = 5 ∨ b' = 12) (hV : CV K r cp τ) (hW : Wb τ b) (hPC : PC r τ) {m : Nat} (hm : K m = 1) (hmb : Mb τ m) : CM l g yX4_hasNoFeed cX4_hasNoFeed 3 (some .boolean) ({ frames := 3, cells := 0, slots := 0, locals := 62 }) [.ref (P 0), .ref m] (cheap g P K r cp b b' τ) (pV (some (.int (iI (bI (cDk τ m))))) (cheap g P K r cp b b' τ)) (noX) := by
  refine CM.of (lo := [some (.ref (P 0)), some (.ref m), none]) (by decide) (Nat.le_of_ble_eq_true rfl) (by simp [Value.category]) rfl ?_
  intro pX eX sX mX bX tX cX AX F htab hmn
  have F : Fx pX l sX mX ([.ref (P 0), .ref m] : List Value).toArray tX cX cX4_hasNoFeed 3 (some .boolean) RX4 g AX := F
  have hM := hV.1
  have hR := hV.2.1
  have hL0 := hV.2.2.1
  have hL1 := hV.2.2.2.1
  have hL2 := hV.2.2.2.2.1
  have hS20 := hV.2.2.2.2.2.1
  have hS21 := hV.2.2.2.2.2.2.1
  have hS22 := hV.2.2.2.2.2.2.2.1
  have hS2 := hV.2.2.2.2.2.2.2.2.1
  have hn8 : 0 ≤ τ 55 0 ∧ τ 55 0 ≤ 8 := ⟨hL2.1, hL2.2.2.2.1⟩
  have hn60 : 0 ≤ τ 53 0 ∧ τ 53 0 ≤ 60 := ⟨hL0.1, hL0.2.2.2.1⟩
  have hWb1 := hW.1
  have hWb2 := hW.2.1
  have hWb3 := hW.2.2.1
  have hWb5 := hW.2.2.2.1
  have hWb6 := hW.2.2.2.2
  refine v_iconst F (pc := 0) dX4_hasNoFeed_0 ?_
  refine v_istore_n F (pc := 1) (lo' := [some (.ref (P 0)), some (.ref m), some (.int (iI (0)))]) dX4_hasNoFeed_1 (Nat.le_of_ble_eq_true rfl) rfl ?_
  refine v_iload_n F (pc := 2) dX4_hasNoFeed_2 rfl ?_
  refine v_iconst F (pc := 3) dX4_hasNoFeed_3 ?_
  refine v_icmp_ge F (pc := 4) (a := 0) (b := 2) 32 dX4_hasNoFeed_4 (by decide) (by omega) (by omega) (fun c_1 => ?_) (fun c_1 => ?_)
  · exact absurd c_1 (by decide)
  · refine v_aload_n F (pc := 7) dX4_hasNoFeed_7 rfl ?_
    refine v_iload_n F (pc := 8) dX4_hasNoFeed_8 rfl ?_
    refine v_callVp F (pc := 9) (As := [.int (iI (0))]) (rest := []) ci_X4_256 ct_X1_hasCordTo cs_X1_hasCordTo (k_X1_hasCordTo l g hk (τ := τ) (K := K) (r := r) (cp := cp) (b := b) (b' := b') (m := m) hm hmb 0 (by omega)) dX4_hasNoFeed_9 (k0 := 4) rfl rfl (ch_m hk hm) rfl rfl (Nat.le_of_ble_eq_true rfl) (Nat.le_of_ble_eq_true rfl) (Nat.le_of_ble_eq_true rfl) (Nat.le_of_ble_eq_true rfl) (Nat.le_of_ble_eq_true rfl) ?_ (fun _ _ z => z.elim)
    refine v_if_eqB F (pc := 12) (b := (cdd (τ 34 m) 0)) 26 dX4_hasNoFeed_12 (by decide) (fun c_2 => ?_) (fun c_2 => ?_)
    · refine v_iinc F (pc := 26) (lo' := [some (.ref (P 0)), some (.ref m), some (.int (iI (1)))]) dX4_hasNoFeed_26 rfl (Nat.le_of_ble_eq_true rfl) rfl ?_
      refine v_goto F (pc := 29) 2 dX4_hasNoFeed_29 (by decide) ?_
      refine v_iload_n F (pc := 2) dX4_hasNoFeed_2 rfl ?_
      refine v_iconst F (pc := 3) dX4_hasNoFeed_3 ?_
      refine v_icmp_ge F (pc := 4) (a := 1) (b := 2) 32 dX4_hasNoFeed_4 (by decide) (by omega) (by omega) (fun c_3 => ?_) (fun c_3 => ?_)
      · exact absurd c_3 (by decide)
      · refine v_aload_n F (pc := 7) dX4_hasNoFeed_7 rfl ?_
        refine v_iload_n F (pc := 8) dX4_hasNoFeed_8 rfl ?_
        refine v_callVp F (pc := 9) (As := [.int (iI (1))]) (rest := []) ci_X4_256 ct_X1_hasCordTo cs_X1_hasCordTo (k_X1_hasCordTo l g hk (τ := τ) (K := K) (r := r) (cp := cp) (b := b) (b' := b') (m := m) hm hmb 1 (by omega)) dX4_hasNoFeed_9 (k0 := 4) rfl rfl (ch_m hk hm) rfl rfl (Nat.le_of_ble_eq_true rfl) (Nat.le_of_ble_eq_true rfl) (Nat.le_of_ble_eq_true rfl) (Nat.le_of_ble_eq_true rfl) (Nat.le_of_ble_eq_true rfl) ?_ (fun _ _ z => z.elim)
        refine v_if_eqB F (pc := 12) (b := (cdd (τ 34 m) 1)) 26 dX4_hasNoFeed_12 (by decide) (fun c_4 => ?_) (fun c_4 => ?_)
        · refine v_iinc F (pc := 26) (lo' := [some (.ref (P 0)), some (.ref m), some (.int (iI (2)))]) dX4_hasNoFeed_26 rfl (Nat.le_of_ble_eq_true rfl) rfl ?_
          refine v_goto F (pc := 29) 2 dX4_hasNoFeed_29 (by decide) ?_
          refine v_iload_n F (pc := 2) dX4_hasNoFeed_2 rfl ?_
          refine v_iconst F (pc := 3) dX4_hasNoFeed_3 ?_
          refine v_icmp_ge F (pc := 4) (a := 2) (b := 2) 32 dX4_hasNoFeed_4 (by decide) (by omega) (by omega) (fun c_5 => ?_) (fun c_5 => ?_)
          · refine v_iconst F (pc := 32) dX4_hasNoFeed_32 ?_
            refine v_iret F (pc := 33) (z := (iI (1))) dX4_hasNoFeed_33 rfl (by first | rfl | exact nar_bI _ | decide) (Nat.le_of_ble_eq_true rfl) (Nat.le_of_ble_eq_true rfl) ?_
            exact ⟨congrArg (fun z => some (Value.int (iI z))) (show (1 : Int) = bI (cDk τ m) by simp only [cDk]; simp_all [bI]), rfl⟩
          · exact absurd c_5 (by decide)
        · refine v_aload_n F (pc := 15) dX4_hasNoFeed_15 rfl ?_
          refine v_getf F (pc := 16) fd_X4_16_7 (v := .ref (P 2)) dX4_hasNoFeed_16 (ch_0 hk) rfl ?_
          refine v_iload_n F (pc := 19) dX4_hasNoFeed_19 rfl ?_
          refine v_zald F (pc := 20) (n := 2) (f := τ 2) (z := 1) dX4_hasNoFeed_20 (ch_2 hk) (by omega) (by decide) ?_
          have bd_6 := hS2 1 (by omega) (by omega)
          refine v_if_ne F (pc := 21) (a := (τ 2) 1) 26 dX4_hasNoFeed_21 (by decide) (by omega) (fun c_7 => ?_) (fun c_7 => ?_)
          · refine v_iinc F (pc := 26) (lo' := [some (.ref (P 0)), some (.ref m), some (.int (iI (2)))]) dX4_hasNoFeed_26 rfl (Nat.le_of_ble_eq_true rfl) rfl ?_
            refine v_goto F (pc := 29) 2 dX4_hasNoFeed_29 (by decide) ?_
            refine v_iload_n F (pc := 2) dX4_hasNoFeed_2 rfl ?_
            refine v_iconst F (pc := 3) dX4_hasNoFeed_3 ?_
            refine v_icmp_ge F (pc := 4) (a := 2) (b := 2) 32 dX4_hasNoFeed_4 (by decide) (by omega) (by omega) (fun c_8 => ?_) (fun c_8 => ?_)
            · refine v_iconst F (pc := 32) dX4_hasNoFeed_32 ?_
              refine v_iret F (pc := 33) (z := (iI (1))) dX4_hasNoFeed_33 rfl (by first | rfl | exact nar_bI _ | decide) (Nat.le_of_ble_eq_true rfl) (Nat.le_of_ble_eq_true rfl) ?_
              exact ⟨congrArg (fun z => some (Value.int (iI z))) (show (1 : Int) = bI (cDk τ m) by simp only [cDk]; simp_all [bI]), rfl⟩
            · exact absurd c_8 (by decide)
          · refine v_iconst F (pc := 24) dX4_hasNoFeed_24 ?_
            refine v_iret F (pc := 25) (z := (iI (0))) dX4_hasNoFeed_25 rfl (by first | rfl | exact nar_bI _ | decide) (Nat.le_of_ble_eq_true rfl) (Nat.le_of_ble_eq_true rfl) ?_
            exact ⟨congrArg (fun z => some (Value.int (iI z))) (show (0 : Int) = bI (cDk τ m) by simp only [cDk]; simp_all [bI]), rfl⟩
    · refine v_aload_n F (pc := 15) dX4_hasNoFeed_15 rfl ?_
      refine v_getf F (pc := 16) fd_X4_16_7 (v := .ref (P 2)) dX4_hasNoFeed_16 (ch_0 hk) rfl ?_
      refine v_iload_n F (pc := 19) dX4_hasNoFeed_19 rfl ?_
      refine v_zald F (pc := 20) (n := 2) (f := τ 2) (z := 0) dX4_hasNoFeed_20 (ch_2 hk) (by omega) (by decide) ?_
      have bd_9 := hS2 0 (by omega) (by omega)
      refine v_if_ne F (pc := 21) (a := (τ 2) 0) 26 dX4_hasNoFeed_21 (by decide) (by omega) (fun c_10 => ?_) (fun c_10 => ?_)
      · refine v_iinc F (pc := 26) (lo' := [some (.ref (P 0)), some (.ref m), some (.int (iI (1)))]) dX4_hasNoFeed_26 rfl (Nat.le_of_ble_eq_true rfl) rfl ?_
        refine v_goto F (pc := 29) 2 dX4_hasNoFeed_29 (by decide) ?_
        refine v_iload_n F (pc := 2) dX4_hasNoFeed_2 rfl ?_
        refine v_iconst F (pc := 3) dX4_hasNoFeed_3 ?_
        refine v_icmp_ge F (pc := 4) (a := 1) (b := 2) 32 dX4_hasNoFeed_4 (by decide) (by omega) (by omega) (fun c_11 => ?_) (fun c_11 => ?_)
        · exact absurd c_11 (by decide)
        · refine v_aload_n F (pc := 7) dX4_hasNoFeed_7 rfl ?_
          refine v_iload_n F (pc := 8) dX4_hasNoFeed_8 rfl ?_
          refine v_callVp F (pc := 9) (As := [.int (iI (1))]) (rest := []) ci_X4_256 ct_X1_hasCordTo cs_X1_hasCordTo (k_X1_hasCordTo l g hk (τ := τ) (K := K) (r := r) (cp := cp) (b := b) (b' := b') (m := m) hm hmb 1 (by omega)) dX4_hasNoFeed_9 (k0 := 4) rfl rfl (ch_m hk hm) rfl rfl (Nat.le_of_ble_eq_true rfl) (Nat.le_of_ble_eq_true rfl) (Nat.le_of_ble_eq_true rfl) (Nat.le_of_ble_eq_true rfl) (Nat.le_of_ble_eq_true rfl) ?_ (fun _ _ z => z.elim)
          refine v_if_eqB F (pc := 12) (b := (cdd (τ 34 m) 1)) 26 dX4_hasNoFeed_12 (by decide) (fun c_12 => ?_) (fun c_12 => ?_)
          · refine v_iinc F (pc := 26) (lo' := [some (.ref (P 0)), some (.ref m), some (.int (iI (2)))]) dX4_hasNoFeed_26 rfl (Nat.le_of_ble_eq_true rfl) rfl ?_
            refine v_goto F (pc := 29) 2 dX4_hasNoFeed_29 (by decide) ?_
            refine v_iload_n F (pc := 2) dX4_hasNoFeed_2 rfl ?_
            refine v_iconst F (pc := 3) dX4_hasNoFeed_3 ?_
            refine v_icmp_ge F (pc := 4) (a := 2) (b := 2) 32 dX4_hasNoFeed_4 (by decide) (by omega) (by omega) (fun c_13 => ?_) (fun c_13 => ?_)
            · refine v_iconst F (pc := 32) dX4_hasNoFeed_32 ?_
              refine v_iret F (pc := 33) (z := (iI (1))) dX4_hasNoFeed_33 rfl (by first | rfl | exact nar_bI _ | decide) (Nat.le_of_ble_eq_true rfl) (Nat.le_of_ble_eq_true rfl) ?_
              exact ⟨congrArg (fun z => some (Value.int (iI z))) (show (1 : Int) = bI (cDk τ m) by simp only [cDk]; simp_all [bI]), rfl⟩
            · exact absurd c_13 (by decide)
          · refine v_aload_n F (pc := 15) dX4_hasNoFeed_15 rfl ?_
            refine v_getf F (pc := 16) fd_X4_16_7 (v := .ref (P 2)) dX4_hasNoFeed_16 (ch_0 hk) rfl ?_
            refine v_iload_n F (pc := 19) dX4_hasNoFeed_19 rfl ?_
            refine v_zald F (pc := 20) (n := 2) (f := τ 2) (z := 1) dX4_hasNoFeed_20 (ch_2 hk) (by omega) (by decide) ?_
            have bd_14 := hS2 1 (by omega) (by omega)
            refine v_if_ne F (pc := 21) (a := (τ 2) 1) 26 dX4_hasNoFeed_21 (by decide) (by omega) (fun c_15 => ?_) (fun c_15 => ?_)
            · refine v_iinc F (pc := 26) (lo' := [some (.ref (P 0)), some (.ref m), some (.int (iI (2)))]) dX4_hasNoFeed_26 rfl (Nat.le_of_ble_eq_true rfl) rfl ?_
              refine v_goto F (pc := 29) 2 dX4_hasNoFeed_29 (by decide) ?_
              refine v_iload_n F (pc := 2) dX4_hasNoFeed_2 rfl ?_
              refine v_iconst F (pc := 3) dX4_hasNoFeed_3 ?_
              refine v_icmp_ge F (pc := 4) (a := 2) (b := 2) 32 dX4_hasNoFeed_4 (by decide) (by omega) (by omega) (fun c_16 => ?_) (fun c_16 => ?_)
              · refine v_iconst F (pc := 32) dX4_hasNoFeed_32 ?_
                refine v_iret F (pc := 33) (z := (iI (1))) dX4_hasNoFeed_33 rfl (by first | rfl | exact nar_bI _ | decide) (Nat.le_of_ble_eq_true rfl) (Nat.le_of_ble_eq_true rfl) ?_
                exact ⟨congrArg (fun z => some (Value.int (iI z))) (show (1 : Int) = bI (cDk τ m) by simp only [cDk]; simp_all [bI]), rfl⟩
              · exact absurd c_16 (by decide)
            · refine v_iconst F (pc := 24) dX4_hasNoFeed_24 ?_
              refine v_iret F (pc := 25) (z := (iI (0))) dX4_hasNoFeed_25 rfl (by first | rfl | exact nar_bI _ | decide) (Nat.le_of_ble_eq_true rfl) (Nat.le_of_ble_eq_true rfl) ?_
              exact ⟨congrArg (fun z => some (Value.int (iI z))) (show (0 : Int) = bI (cDk τ m) by simp only [cDk]; simp_all [bI]), rfl⟩
      · refine v_iconst F (pc := 24) dX4_hasNoFeed_24 ?_
        refine v_iret F (pc := 25) (z := (iI (0))) dX4_hasNoFeed_25 rfl (by first | rfl | exact nar_bI _ | decide) (Nat.le_of_ble_eq_true rfl) (Nat.le_of_ble_eq_true rfl) ?_
        exact ⟨congrArg (fun z => some (Value.int (iI z))) (show (0 : Int) = bI (cDk τ m) by simp only [cDk]; simp_all [bI]), rfl⟩
-- X4_powerNow
set_option maxRecDepth 100000 in
set_option maxHeartbeats 8000000 in
theorem k_X4_powerNow (l : Launch) (g : gT) {P K : Nat → Nat} {r : Nat → Int → Option Nat} {cp : Nat → Nat} {b b' : Nat} {τ : sT} (hk : cok P K cp) (hb : b = 5 ∨ b = 12) (hb2 : b' = 5 ∨ b' = 12) (hV : CV K r cp τ) (hW : Wb τ b) (hPC : PC r τ) {m : Nat} (hm : K m = 1) (hmb : Mb τ m) (f : Int) (hf : 0 ≤ f ∧ f < 2) : CM l g yX4_powerNow cX4_powerNow 4 (some .int) ({ frames := 3, cells := 0, slots := 0, locals := 62 }) [.ref (P 0), .ref m, .int (iI (f))] (cheap g P K r cp b b' τ) (pV (some (.int (iI (cTk τ m f)))) (cheap g P K r cp b b' τ)) (noX) := by
  refine CM.of (lo := [some (.ref (P 0)), some (.ref m), some (.int (iI (f))), none]) (by decide) (Nat.le_of_ble_eq_true rfl) (by simp [Value.category]) rfl ?_
  intro pX eX sX mX bX tX cX AX F htab hmn
  have F : Fx pX l sX mX ([.ref (P 0), .ref m, .int (iI (f))] : List Value).toArray tX cX cX4_powerNow 4 (some .int) RX4 g AX := F
  have hM := hV.1
  have hR := hV.2.1
  have hL0 := hV.2.2.1
  have hL1 := hV.2.2.2.1
  have hL2 := hV.2.2.2.2.1
  have hS20 := hV.2.2.2.2.2.1
  have hS21 := hV.2.2.2.2.2.2.1
  have hS22 := hV.2.2.2.2.2.2.2.1
  have hS2 := hV.2.2.2.2.2.2.2.2.1
  have hn8 : 0 ≤ τ 55 0 ∧ τ 55 0 ≤ 8 := ⟨hL2.1, hL2.2.2.2.1⟩
  have hn60 : 0 ≤ τ 53 0 ∧ τ 53 0 ≤ 60 := ⟨hL0.1, hL0.2.2.2.1⟩
  have hWb1 := hW.1
  have hWb2 := hW.2.1
  have hWb3 := hW.2.2.1
  have hWb5 := hW.2.2.2.1
  have hWb6 := hW.2.2.2.2
  refine v_aload_n F (pc := 0) dX4_powerNow_0 rfl ?_
  refine v_getf F (pc := 1) fd_X4_16_7 (v := .ref (P 2)) dX4_powerNow_1 (ch_0 hk) rfl ?_
  refine v_iload_n F (pc := 4) dX4_powerNow_4 rfl ?_
  refine v_zald F (pc := 5) (n := 2) (f := τ 2) (z := f) dX4_powerNow_5 (ch_2 hk) (by omega) (by decide) ?_
  have bd_1 := hS2 f (by omega) (by omega)
  refine v_if_ne F (pc := 6) (a := (τ 2) f) 17 dX4_powerNow_6 (by decide) (by omega) (fun c_2 => ?_) (fun c_2 => ?_)
  · refine v_iconst F (pc := 17) dX4_powerNow_17 ?_
    refine v_iret F (pc := 18) (z := (iI (0))) dX4_powerNow_18 rfl rfl (Nat.le_of_ble_eq_true rfl) (Nat.le_of_ble_eq_true rfl) ?_
    exact ⟨congrArg (fun z => some (Value.int (iI z))) (show (0 : Int) = cTk τ m f by simp only [cTk]; simp_all), rfl⟩
  · refine v_aload_n F (pc := 9) dX4_powerNow_9 rfl ?_
    refine v_iload_n F (pc := 10) dX4_powerNow_10 rfl ?_
    refine v_callVp F (pc := 11) (As := [.int (iI (f))]) (rest := []) ci_X4_256 ct_X1_hasCordTo cs_X1_hasCordTo (k_X1_hasCordTo l g hk (τ := τ) (K := K) (r := r) (cp := cp) (b := b) (b' := b') (m := m) hm hmb f (by omega)) dX4_powerNow_11 (k0 := 4) rfl rfl (ch_m hk hm) rfl rfl (Nat.le_of_ble_eq_true rfl) (Nat.le_of_ble_eq_true rfl) (Nat.le_of_ble_eq_true rfl) (Nat.le_of_ble_eq_true rfl) (Nat.le_of_ble_eq_true rfl) ?_ (fun _ _ z => z.elim)
    refine v_if_neB F (pc := 14) (b := (cdd (τ 34 m) f)) 19 dX4_powerNow_14 (by decide) (fun c_3 => ?_) (fun c_3 => ?_)
    · refine v_aload_n F (pc := 19) dX4_powerNow_19 rfl ?_
      refine v_getf F (pc := 20) fd_X4_156_4 (v := .int (iI (τ 34 (m : Nat)))) dX4_powerNow_20 (ch_m hk hm) rfl ?_
      refine v_iconst F (pc := 23) dX4_powerNow_23 ?_
      refine v_icmp_ne F (pc := 24) (a := τ 34 (m : Nat)) (b := 2) 38 dX4_powerNow_24 (by decide) (by omega) (by omega) (fun c_4 => ?_) (fun c_4 => ?_)
      · refine v_aload_n F (pc := 38) dX4_powerNow_38 rfl ?_
        refine v_getf F (pc := 39) fd_X4_214_4 (v := .int (iI (τ 32 (m : Nat)))) dX4_powerNow_39 (ch_m hk hm) rfl ?_
        refine v_iret F (pc := 42) (z := (iI (τ 32 (m : Nat)))) dX4_powerNow_42 rfl rfl (Nat.le_of_ble_eq_true rfl) (Nat.le_of_ble_eq_true rfl) ?_
        exact ⟨congrArg (fun z => some (Value.int (iI z))) (show (τ 32 (m : Nat) : Int) = cTk τ m f by simp only [cTk]; simp_all), rfl⟩
      · refine v_aload_n F (pc := 27) dX4_powerNow_27 rfl ?_
        refine v_getf F (pc := 28) fd_X4_16_7 (v := .ref (P 2)) dX4_powerNow_28 (ch_0 hk) rfl ?_
        refine v_iconst F (pc := 31) dX4_powerNow_31 ?_
        refine v_iload_n F (pc := 32) dX4_powerNow_32 rfl ?_
        refine v_isub F (pc := 33) (a := 1) (b := f) dX4_powerNow_33 ?_
        refine v_zald F (pc := 34) (n := 2) (f := τ 2) (z := 1 - f) dX4_powerNow_34 (ch_2 hk) (by omega) (by decide) ?_
        have bd_5 := hS2 (1 - f) (by omega) (by omega)
        refine v_if_eq F (pc := 35) (a := (τ 2) (1 - f)) 43 dX4_powerNow_35 (by decide) (by omega) (fun c_6 => ?_) (fun c_6 => ?_)
        · refine v_aload_n F (pc := 43) dX4_powerNow_43 rfl ?_
          refine v_getf F (pc := 44) fd_X4_214_4 (v := .int (iI (τ 32 (m : Nat)))) dX4_powerNow_44 (ch_m hk hm) rfl ?_
          refine v_iconst F (pc := 47) dX4_powerNow_47 ?_
          refine v_idiv F (pc := 48) (a := τ 32 (m : Nat)) (b := 2) dX4_powerNow_48 (by omega) (by omega) ?_
          refine v_istore_n F (pc := 49) (lo' := [some (.ref (P 0)), some (.ref m), some (.int (iI (f))), some (.int (iI ((τ 32 (m : Nat)) / 2)))]) dX4_powerNow_49 (Nat.le_of_ble_eq_true rfl) rfl ?_
          refine v_iload_n F (pc := 50) dX4_powerNow_50 rfl ?_
          refine v_if_ne F (pc := 51) (a := f) 63 dX4_powerNow_51 (by decide) (by omega) (fun c_7 => ?_) (fun c_7 => ?_)
          · refine v_iload_n F (pc := 63) dX4_powerNow_63 rfl ?_
            refine v_iret F (pc := 64) (z := (iI ((τ 32 (m : Nat)) / 2))) dX4_powerNow_64 rfl rfl (Nat.le_of_ble_eq_true rfl) (Nat.le_of_ble_eq_true rfl) ?_
            exact ⟨congrArg (fun z => some (Value.int (iI z))) (show ((τ 32 (m : Nat)) / 2 : Int) = cTk τ m f by simp only [cTk]; simp_all), rfl⟩
          · refine v_aload_n F (pc := 54) dX4_powerNow_54 rfl ?_
            refine v_getf F (pc := 55) fd_X4_214_4 (v := .int (iI (τ 32 (m : Nat)))) dX4_powerNow_55 (ch_m hk hm) rfl ?_
            refine v_iload_n F (pc := 58) dX4_powerNow_58 rfl ?_
            refine v_isub F (pc := 59) (a := τ 32 (m : Nat)) (b := (τ 32 (m : Nat)) / 2) dX4_powerNow_59 ?_
            refine v_goto F (pc := 60) 64 dX4_powerNow_60 (by decide) ?_
            refine v_iret F (pc := 64) (z := (iI ((τ 32 (m : Nat)) - ((τ 32 (m : Nat)) / 2)))) dX4_powerNow_64 rfl rfl (Nat.le_of_ble_eq_true rfl) (Nat.le_of_ble_eq_true rfl) ?_
            exact ⟨congrArg (fun z => some (Value.int (iI z))) (show ((τ 32 (m : Nat)) - ((τ 32 (m : Nat)) / 2) : Int) = cTk τ m f by simp only [cTk]; simp_all), rfl⟩
        · refine v_aload_n F (pc := 38) dX4_powerNow_38 rfl ?_
          refine v_getf F (pc := 39) fd_X4_214_4 (v := .int (iI (τ 32 (m : Nat)))) dX4_powerNow_39 (ch_m hk hm) rfl ?_
          refine v_iret F (pc := 42) (z := (iI (τ 32 (m : Nat)))) dX4_powerNow_42 rfl rfl (Nat.le_of_ble_eq_true rfl) (Nat.le_of_ble_eq_true rfl) ?_
          exact ⟨congrArg (fun z => some (Value.int (iI z))) (show (τ 32 (m : Nat) : Int) = cTk τ m f by simp only [cTk]; simp_all), rfl⟩
    · refine v_iconst F (pc := 17) dX4_powerNow_17 ?_
      refine v_iret F (pc := 18) (z := (iI (0))) dX4_powerNow_18 rfl rfl (Nat.le_of_ble_eq_true rfl) (Nat.le_of_ble_eq_true rfl) ?_
      exact ⟨congrArg (fun z => some (Value.int (iI z))) (show (0 : Int) = cTk τ m f by simp only [cTk]; simp_all), rfl⟩
-- X4_newMachine
set_option maxRecDepth 100000 in
set_option maxHeartbeats 8000000 in
theorem k_X4_newMachine (l : Launch) (g : gT) {P K : Nat → Nat} {r : Nat → Int → Option Nat} {cp : Nat → Nat} {b b' : Nat} {τ : sT} (hk : cok P K cp) (hb : b = 5 ∨ b = 12) (hb2 : b' = 5 ∨ b' = 12) (hV : CV K r cp τ) (hW : Wb τ b) (hPC : PC r τ) (n p w c : Int) (hn : -2147483648 ≤ n ∧ n ≤ 2147483647) (hp : -2147483648 ≤ p ∧ p ≤ 2147483647) (hw : -2147483648 ≤ w ∧ w ≤ 2147483647) (hc : -2147483648 ≤ c ∧ c ≤ 2147483647) : CM l g yX4_newMachine cX4_newMachine 5 (some (.object "RackPlanner$Machine")) ({ frames := 11, cells := 5, slots := 31, locals := 162 }) [.ref (P 0), .int (iI (n)), .int (iI (p)), .int (iI (w)), .int (iI (c))] (cheap g P K r cp b b' τ) (fun v h1 => ∃ q : Nat, cheap g P K r cp b b' τ q = none ∧ v = some (.ref q) ∧ h1 = cheap g P (kup K q 1) r cp b b' (smo τ q (τ 0 0) n p w c) ∧ cKD n p w c) (fun E h1 => E = "java/lang/IllegalArgumentException" ∧ h1 = cheap g P K r cp b b' τ ∧ ¬ cKD n p w c) := by
  refine CM.of (lo := [some (.ref (P 0)), some (.int (iI (n))), some (.int (iI (p))), some (.int (iI (w))), some (.int (iI (c)))]) (by decide) (Nat.le_of_ble_eq_true rfl) (by simp [Value.category]) rfl ?_
  intro pX eX sX mX bX tX cX AX F htab hmn
  have F : Fx pX l sX mX ([.ref (P 0), .int (iI (n)), .int (iI (p)), .int (iI (w)), .int (iI (c))] : List Value).toArray tX cX cX4_newMachine 5 (some (.object "RackPlanner$Machine")) RX4 g AX := F
  have hM := hV.1
  have hR := hV.2.1
  have hL0 := hV.2.2.1
  have hL1 := hV.2.2.2.1
  have hL2 := hV.2.2.2.2.1
  have hS20 := hV.2.2.2.2.2.1
  have hS21 := hV.2.2.2.2.2.2.1
  have hS22 := hV.2.2.2.2.2.2.2.1
  have hS2 := hV.2.2.2.2.2.2.2.2.1
  have hn8 : 0 ≤ τ 55 0 ∧ τ 55 0 ≤ 8 := ⟨hL2.1, hL2.2.2.2.1⟩
  have hn60 : 0 ≤ τ 53 0 ∧ τ 53 0 ≤ 60 := ⟨hL0.1, hL0.2.2.2.1⟩
  have hWb1 := hW.1
  have hWb2 := hW.2.1
  have hWb3 := hW.2.2.1
  have hWb5 := hW.2.2.2.1
  have hWb6 := hW.2.2.2.2
  refine v_iload_n F (pc := 0) dX4_newMachine_0 rfl ?_
  refine v_iconst F (pc := 1) dX4_newMachine_1 ?_
  refine v_bipush F (pc := 2) dX4_newMachine_2 (by decide) ?_
  refine v_callS F (pc := 4) (As := [.int (iI (n)), .int (iI (1)), .int (iI (6))]) (rest := []) ci_X4_46 ct_X4_requireRange (k_X4_requireRange l g n 1 6 (by omega) (by omega) (by omega)) dX4_newMachine_4 rfl rfl (Nat.le_of_ble_eq_true rfl) (Nat.le_of_ble_eq_true rfl) (Nat.le_of_ble_eq_true rfl) (Nat.le_of_ble_eq_true rfl) (Nat.le_of_ble_eq_true rfl) (fun v_ h_ hp_ => ?_) (fun E_ h_ hp_ => by obtain ⟨rfl, rfl, hc_⟩ := hp_; exact v_xout F.2.2.2.2.2.1 htab (Nat.le_of_ble_eq_true rfl) (Nat.le_of_ble_eq_true rfl) (⟨rfl, rfl, fun z_ => hc_ (by omega)⟩))
  obtain ⟨rfl, rfl, rr_1a, rr_1b⟩ := hp_
  refine v_iload_n F (pc := 7) dX4_newMachine_7 rfl ?_
  refine v_iconst F (pc := 8) dX4_newMachine_8 ?_
  refine v_sipush F (pc := 9) dX4_newMachine_9 (by decide) ?_
  refine v_callS F (pc := 12) (As := [.int (iI (p)), .int (iI (0)), .int (iI (2000))]) (rest := []) ci_X4_46 ct_X4_requireRange (k_X4_requireRange l g p 0 2000 (by omega) (by omega) (by omega)) dX4_newMachine_12 rfl rfl (Nat.le_of_ble_eq_true rfl) (Nat.le_of_ble_eq_true rfl) (Nat.le_of_ble_eq_true rfl) (Nat.le_of_ble_eq_true rfl) (Nat.le_of_ble_eq_true rfl) (fun v_ h_ hp_ => ?_) (fun E_ h_ hp_ => by obtain ⟨rfl, rfl, hc_⟩ := hp_; exact v_xout F.2.2.2.2.2.1 htab (Nat.le_of_ble_eq_true rfl) (Nat.le_of_ble_eq_true rfl) (⟨rfl, rfl, fun z_ => hc_ (by omega)⟩))
  obtain ⟨rfl, rfl, rr_2a, rr_2b⟩ := hp_
  refine v_iload_n F (pc := 15) dX4_newMachine_15 rfl ?_
  refine v_iconst F (pc := 16) dX4_newMachine_16 ?_
  refine v_sipush F (pc := 17) dX4_newMachine_17 (by decide) ?_
  refine v_callS F (pc := 20) (As := [.int (iI (w)), .int (iI (0)), .int (iI (1000))]) (rest := []) ci_X4_46 ct_X4_requireRange (k_X4_requireRange l g w 0 1000 (by omega) (by omega) (by omega)) dX4_newMachine_20 rfl rfl (Nat.le_of_ble_eq_true rfl) (Nat.le_of_ble_eq_true rfl) (Nat.le_of_ble_eq_true rfl) (Nat.le_of_ble_eq_true rfl) (Nat.le_of_ble_eq_true rfl) (fun v_ h_ hp_ => ?_) (fun E_ h_ hp_ => by obtain ⟨rfl, rfl, hc_⟩ := hp_; exact v_xout F.2.2.2.2.2.1 htab (Nat.le_of_ble_eq_true rfl) (Nat.le_of_ble_eq_true rfl) (⟨rfl, rfl, fun z_ => hc_ (by omega)⟩))
  obtain ⟨rfl, rfl, rr_3a, rr_3b⟩ := hp_
  refine v_iload F (pc := 23) dX4_newMachine_23 rfl ?_
  refine v_iconst F (pc := 25) dX4_newMachine_25 ?_
  refine v_iconst F (pc := 26) dX4_newMachine_26 ?_
  refine v_callS F (pc := 27) (As := [.int (iI (c)), .int (iI (0)), .int (iI (2))]) (rest := []) ci_X4_46 ct_X4_requireRange (k_X4_requireRange l g c 0 2 (by omega) (by omega) (by omega)) dX4_newMachine_27 rfl rfl (Nat.le_of_ble_eq_true rfl) (Nat.le_of_ble_eq_true rfl) (Nat.le_of_ble_eq_true rfl) (Nat.le_of_ble_eq_true rfl) (Nat.le_of_ble_eq_true rfl) (fun v_ h_ hp_ => ?_) (fun E_ h_ hp_ => by obtain ⟨rfl, rfl, hc_⟩ := hp_; exact v_xout F.2.2.2.2.2.1 htab (Nat.le_of_ble_eq_true rfl) (Nat.le_of_ble_eq_true rfl) (⟨rfl, rfl, fun z_ => hc_ (by omega)⟩))
  obtain ⟨rfl, rfl, rr_4a, rr_4b⟩ := hp_
  refine v_new F (pc := 30) fn_X4_105 dX4_newMachine_30 (Nat.le_of_ble_eq_true rfl) (Nat.le_of_ble_eq_true rfl) (fun q_5 nq_5 => ?_)
  have ne_q : P 0 ≠ q_5 := fun z_ => by have h_ := ch_0 (g := g) (r := r) (b := b) (b' := b') (τ := τ) hk; rw [z_, nq_5] at h_; cases h_
  refine v_dup F (pc := 33) dX4_newMachine_33 rfl ?_
  refine v_aload_n F (pc := 34) dX4_newMachine_34 rfl ?_
  refine v_getf F (pc := 35) fd_X4_42_7 (v := .int (iI (τ 0 0))) dX4_newMachine_35 ((f_up_n ne_q).trans (ch_0 hk)) rfl ?_
  refine v_iload_n F (pc := 38) dX4_newMachine_38 rfl ?_
  refine v_iload_n F (pc := 39) dX4_newMachine_39 rfl ?_
  refine v_iload_n F (pc := 40) dX4_newMachine_40 rfl ?_
  refine v_iload F (pc := 41) dX4_newMachine_41 rfl ?_
  refine v_callIn F (pc := 43) (As := [.int (iI (τ 0 0)), .int (iI (n)), .int (iI (p)), .int (iI (w)), .int (iI (c))]) (rest := [.ref q_5]) ci_X4_250 ct_X1_init rfl (k_X1_init l g (f_up_s _ _ _) (τ 0 0) n p w c) dX4_newMachine_43 rfl rfl (Nat.le_of_ble_eq_true rfl) (Nat.le_of_ble_eq_true rfl) (Nat.le_of_ble_eq_true rfl) (Nat.le_of_ble_eq_true rfl) (Nat.le_of_ble_eq_true rfl) ?_
  obtain ⟨hk_n, he_n⟩ := ch_newm (r := r) (b := b) (b' := b') (τ := τ) hk nq_5 (τ 0 0) n p w c
  rw [f_up_up, he_n]
  refine v_aret F (pc := 46) dX4_newMachine_46 rfl (Or.inl ⟨_, rfl⟩) (Nat.le_of_ble_eq_true rfl) (Nat.le_of_ble_eq_true rfl) ?_
  exact ⟨_, nq_5, rfl, rfl, ⟨by omega, by omega⟩, ⟨by omega, by omega⟩, ⟨by omega, by omega⟩, by omega, by omega⟩
-- X4_racks
set_option maxRecDepth 100000 in
set_option maxHeartbeats 8000000 in
theorem k_X4_racks (l : Launch) (g : gT) {P K : Nat → Nat} {r : Nat → Int → Option Nat} {cp : Nat → Nat} {b b' : Nat} {τ : sT} (hk : cok P K cp) (hb : b = 5 ∨ b = 12) (hb2 : b' = 5 ∨ b' = 12) (hV : CV K r cp τ) (hW : Wb τ b) (hPC : PC r τ) : CM l g yX4_racks cX4_racks 1 (some .int) ({ frames := 2, cells := 0, slots := 0, locals := 40 }) [.ref (P 0)] (cheap g P K r cp b b' τ) (pV (some (.int (iI (τ 55 0)))) (cheap g P K r cp b b' τ)) (noX) := by
  refine CM.of (lo := [some (.ref (P 0))]) (by decide) (Nat.le_of_ble_eq_true rfl) (by simp [Value.category]) rfl ?_
  intro pX eX sX mX bX tX cX AX F htab hmn
  have F : Fx pX l sX mX ([.ref (P 0)] : List Value).toArray tX cX cX4_racks 1 (some .int) RX4 g AX := F
  have hM := hV.1
  have hR := hV.2.1
  have hL0 := hV.2.2.1
  have hL1 := hV.2.2.2.1
  have hL2 := hV.2.2.2.2.1
  have hS20 := hV.2.2.2.2.2.1
  have hS21 := hV.2.2.2.2.2.2.1
  have hS22 := hV.2.2.2.2.2.2.2.1
  have hS2 := hV.2.2.2.2.2.2.2.2.1
  have hn8 : 0 ≤ τ 55 0 ∧ τ 55 0 ≤ 8 := ⟨hL2.1, hL2.2.2.2.1⟩
  have hn60 : 0 ≤ τ 53 0 ∧ τ 53 0 ≤ 60 := ⟨hL0.1, hL0.2.2.2.1⟩
  have hWb1 := hW.1
  have hWb2 := hW.2.1
  have hWb3 := hW.2.2.1
  have hWb5 := hW.2.2.2.1
  have hWb6 := hW.2.2.2.2
  refine v_aload_n F (pc := 0) dX4_racks_0 rfl ?_
  refine v_getf F (pc := 1) fd_X4_12_7 (v := .ref (P 1)) dX4_racks_1 (ch_0 hk) rfl ?_
  refine v_getf F (pc := 4) fd_X4_50_6 (v := .ref (P 19)) dX4_racks_4 (ch_1 hk) rfl ?_
  refine v_callVp F (pc := 7) (As := []) (rest := []) ci_X4_53 ct_Jx4a65c_size_8abf5 cs_Jx4a65c_size_8abf5 (k_Jx4a65c_size_8abf5 l g (n := τ 55 0) (ch_19 hk)) dX4_racks_7 (k0 := 2) rfl rfl (ch_19 hk) rfl rfl (Nat.le_of_ble_eq_true rfl) (Nat.le_of_ble_eq_true rfl) (Nat.le_of_ble_eq_true rfl) (Nat.le_of_ble_eq_true rfl) (Nat.le_of_ble_eq_true rfl) ?_ (fun _ _ z => z.elim)
  refine v_iret F (pc := 10) (z := (iI (τ 55 0))) dX4_racks_10 rfl rfl (Nat.le_of_ble_eq_true rfl) (Nat.le_of_ble_eq_true rfl) ?_
  exact ⟨rfl, rfl⟩
-- X4_machines
set_option maxRecDepth 100000 in
set_option maxHeartbeats 8000000 in
theorem k_X4_machines (l : Launch) (g : gT) {P K : Nat → Nat} {r : Nat → Int → Option Nat} {cp : Nat → Nat} {b b' : Nat} {τ : sT} (hk : cok P K cp) (hb : b = 5 ∨ b = 12) (hb2 : b' = 5 ∨ b' = 12) (hV : CV K r cp τ) (hW : Wb τ b) (hPC : PC r τ) : CM l g yX4_machines cX4_machines 1 (some .int) ({ frames := 2, cells := 0, slots := 0, locals := 40 }) [.ref (P 0)] (cheap g P K r cp b b' τ) (pV (some (.int (iI (τ 53 0)))) (cheap g P K r cp b b' τ)) (noX) := by
  refine CM.of (lo := [some (.ref (P 0))]) (by decide) (Nat.le_of_ble_eq_true rfl) (by simp [Value.category]) rfl ?_
  intro pX eX sX mX bX tX cX AX F htab hmn
  have F : Fx pX l sX mX ([.ref (P 0)] : List Value).toArray tX cX cX4_machines 1 (some .int) RX4 g AX := F
  have hM := hV.1
  have hR := hV.2.1
  have hL0 := hV.2.2.1
  have hL1 := hV.2.2.2.1
  have hL2 := hV.2.2.2.2.1
  have hS20 := hV.2.2.2.2.2.1
  have hS21 := hV.2.2.2.2.2.2.1
  have hS22 := hV.2.2.2.2.2.2.2.1
  have hS2 := hV.2.2.2.2.2.2.2.2.1
  have hn8 : 0 ≤ τ 55 0 ∧ τ 55 0 ≤ 8 := ⟨hL2.1, hL2.2.2.2.1⟩
  have hn60 : 0 ≤ τ 53 0 ∧ τ 53 0 ≤ 60 := ⟨hL0.1, hL0.2.2.2.1⟩
  have hWb1 := hW.1
  have hWb2 := hW.2.1
  have hWb3 := hW.2.2.1
  have hWb5 := hW.2.2.2.1
  have hWb6 := hW.2.2.2.2
  refine v_aload_n F (pc := 0) dX4_machines_0 rfl ?_
  refine v_getf F (pc := 1) fd_X4_23_7 (v := .ref (P 3)) dX4_machines_1 (ch_0 hk) rfl ?_
  refine v_callVp F (pc := 4) (As := []) (rest := []) ci_X4_53 ct_Jx4a65c_size_8abf5 cs_Jx4a65c_size_8abf5 (k_Jx4a65c_size_8abf5 l g (n := τ 53 0) (ch_3 hk)) dX4_machines_4 (k0 := 2) rfl rfl (ch_3 hk) rfl rfl (Nat.le_of_ble_eq_true rfl) (Nat.le_of_ble_eq_true rfl) (Nat.le_of_ble_eq_true rfl) (Nat.le_of_ble_eq_true rfl) (Nat.le_of_ble_eq_true rfl) ?_ (fun _ _ z => z.elim)
  refine v_iret F (pc := 7) (z := (iI (τ 53 0))) dX4_machines_7 rfl rfl (Nat.le_of_ble_eq_true rfl) (Nat.le_of_ble_eq_true rfl) ?_
  exact ⟨rfl, rfl⟩
-- X4_rackOf
set_option maxRecDepth 100000 in
set_option maxHeartbeats 8000000 in
theorem k_X4_rackOf (l : Launch) (g : gT) {P K : Nat → Nat} {r : Nat → Int → Option Nat} {cp : Nat → Nat} {b b' : Nat} {τ : sT} (hk : cok P K cp) (hb : b = 5 ∨ b = 12) (hb2 : b' = 5 ∨ b' = 12) (hV : CV K r cp τ) (hW : Wb τ b) (hPC : PC r τ) (num : Int) (hnum : -2147483648 ≤ num ∧ num ≤ 2147483647) : CM l g yX4_rackOf cX4_rackOf 2 (some .int) ({ frames := 12, cells := 1, slots := 6, locals := 183 }) [.ref (P 0), .int (iI (num))] (cheap g P K r cp b b' τ) (fun v h1 => v = some (.int (iI (τ 35 (ad r 0 (cIx r τ num)) / 20))) ∧ h1 = cheap g P K r cp b b' τ ∧ 0 ≤ cIx r τ num ∧ cIx r τ num < τ 53 0) (fun E h1 => E = "java/lang/IndexOutOfBoundsException" ∧ h1 = cheap g P K r cp b b' τ ∧ cIx r τ num = -1) := by
  refine CM.of (lo := [some (.ref (P 0)), some (.int (iI (num)))]) (by decide) (Nat.le_of_ble_eq_true rfl) (by simp [Value.category]) rfl ?_
  intro pX eX sX mX bX tX cX AX F htab hmn
  have F : Fx pX l sX mX ([.ref (P 0), .int (iI (num))] : List Value).toArray tX cX cX4_rackOf 2 (some .int) RX4 g AX := F
  have hM := hV.1
  have hR := hV.2.1
  have hL0 := hV.2.2.1
  have hL1 := hV.2.2.2.1
  have hL2 := hV.2.2.2.2.1
  have hS20 := hV.2.2.2.2.2.1
  have hS21 := hV.2.2.2.2.2.2.1
  have hS22 := hV.2.2.2.2.2.2.2.1
  have hS2 := hV.2.2.2.2.2.2.2.2.1
  have hn8 : 0 ≤ τ 55 0 ∧ τ 55 0 ≤ 8 := ⟨hL2.1, hL2.2.2.2.1⟩
  have hn60 : 0 ≤ τ 53 0 ∧ τ 53 0 ≤ 60 := ⟨hL0.1, hL0.2.2.2.1⟩
  have hWb1 := hW.1
  have hWb2 := hW.2.1
  have hWb3 := hW.2.2.1
  have hWb5 := hW.2.2.2.1
  have hWb6 := hW.2.2.2.2
  refine v_aload_n F (pc := 0) dX4_rackOf_0 rfl ?_
  refine v_iload_n F (pc := 1) dX4_rackOf_1 rfl ?_
  refine v_callV F (pc := 2) (As := [.int (iI (num))]) (rest := []) ci_X4_146 ct_X4_requireMachine cs_X4_requireMachine (k_X4_requireMachine l g hk hb hb2 hV hW hPC num (by omega)) dX4_rackOf_2 (k0 := 7) rfl rfl (ch_0 hk) rfl rfl (Nat.le_of_ble_eq_true rfl) (Nat.le_of_ble_eq_true rfl) (Nat.le_of_ble_eq_true rfl) (Nat.le_of_ble_eq_true rfl) (Nat.le_of_ble_eq_true rfl) (fun v_ h_ hp_ => ?_) (fun E_ h_ hp_ => by obtain ⟨rfl, rfl, hc_⟩ := hp_; exact v_xout F.2.2.2.2.2.1 htab (Nat.le_of_ble_eq_true rfl) (Nat.le_of_ble_eq_true rfl) (⟨rfl, rfl, hc_⟩))
  obtain ⟨rfl, rfl, hix0, hix1⟩ := hp_
  have hmq : K (ad r 0 (cIx r τ num)) = 1 := (hL0.2.2.2.2 _ hix0 hix1).2
  have hmqb := hM _ hmq
  have hpc := hPC _ hix0 hix1
  refine v_getf F (pc := 5) fd_X4_123_4 (v := .int (iI (τ 35 (ad r 0 (cIx r τ num))))) dX4_rackOf_5 (ch_m hk hmq) rfl ?_
  refine v_callSp F (pc := 8) (As := [.int (iI (τ 35 (ad r 0 (cIx r τ num))))]) (rest := []) ci_X4_143 ct_X4_rackOfCell (k_X4_rackOfCell l g (τ 35 (ad r 0 (cIx r τ num))) (by omega)) dX4_rackOf_8 rfl rfl (Nat.le_of_ble_eq_true rfl) (Nat.le_of_ble_eq_true rfl) (Nat.le_of_ble_eq_true rfl) (Nat.le_of_ble_eq_true rfl) (Nat.le_of_ble_eq_true rfl) ?_ (fun _ _ z => z.elim)
  refine v_iret F (pc := 11) (z := (iI ((τ 35 (ad r 0 (cIx r τ num))) / 20))) dX4_rackOf_11 rfl rfl (Nat.le_of_ble_eq_true rfl) (Nat.le_of_ble_eq_true rfl) ?_
  exact ⟨rfl, rfl, hix0, hix1⟩
-- X4_slotOf
set_option maxRecDepth 100000 in
set_option maxHeartbeats 8000000 in
theorem k_X4_slotOf (l : Launch) (g : gT) {P K : Nat → Nat} {r : Nat → Int → Option Nat} {cp : Nat → Nat} {b b' : Nat} {τ : sT} (hk : cok P K cp) (hb : b = 5 ∨ b = 12) (hb2 : b' = 5 ∨ b' = 12) (hV : CV K r cp τ) (hW : Wb τ b) (hPC : PC r τ) (num : Int) (hnum : -2147483648 ≤ num ∧ num ≤ 2147483647) : CM l g yX4_slotOf cX4_slotOf 2 (some .int) ({ frames := 12, cells := 1, slots := 6, locals := 183 }) [.ref (P 0), .int (iI (num))] (cheap g P K r cp b b' τ) (fun v h1 => v = some (.int (iI (τ 35 (ad r 0 (cIx r τ num)) % 20))) ∧ h1 = cheap g P K r cp b b' τ ∧ 0 ≤ cIx r τ num ∧ cIx r τ num < τ 53 0) (fun E h1 => E = "java/lang/IndexOutOfBoundsException" ∧ h1 = cheap g P K r cp b b' τ ∧ cIx r τ num = -1) := by
  refine CM.of (lo := [some (.ref (P 0)), some (.int (iI (num)))]) (by decide) (Nat.le_of_ble_eq_true rfl) (by simp [Value.category]) rfl ?_
  intro pX eX sX mX bX tX cX AX F htab hmn
  have F : Fx pX l sX mX ([.ref (P 0), .int (iI (num))] : List Value).toArray tX cX cX4_slotOf 2 (some .int) RX4 g AX := F
  have hM := hV.1
  have hR := hV.2.1
  have hL0 := hV.2.2.1
  have hL1 := hV.2.2.2.1
  have hL2 := hV.2.2.2.2.1
  have hS20 := hV.2.2.2.2.2.1
  have hS21 := hV.2.2.2.2.2.2.1
  have hS22 := hV.2.2.2.2.2.2.2.1
  have hS2 := hV.2.2.2.2.2.2.2.2.1
  have hn8 : 0 ≤ τ 55 0 ∧ τ 55 0 ≤ 8 := ⟨hL2.1, hL2.2.2.2.1⟩
  have hn60 : 0 ≤ τ 53 0 ∧ τ 53 0 ≤ 60 := ⟨hL0.1, hL0.2.2.2.1⟩
  have hWb1 := hW.1
  have hWb2 := hW.2.1
  have hWb3 := hW.2.2.1
  have hWb5 := hW.2.2.2.1
  have hWb6 := hW.2.2.2.2
  refine v_aload_n F (pc := 0) dX4_slotOf_0 rfl ?_
  refine v_iload_n F (pc := 1) dX4_slotOf_1 rfl ?_
  refine v_callV F (pc := 2) (As := [.int (iI (num))]) (rest := []) ci_X4_146 ct_X4_requireMachine cs_X4_requireMachine (k_X4_requireMachine l g hk hb hb2 hV hW hPC num (by omega)) dX4_slotOf_2 (k0 := 7) rfl rfl (ch_0 hk) rfl rfl (Nat.le_of_ble_eq_true rfl) (Nat.le_of_ble_eq_true rfl) (Nat.le_of_ble_eq_true rfl) (Nat.le_of_ble_eq_true rfl) (Nat.le_of_ble_eq_true rfl) (fun v_ h_ hp_ => ?_) (fun E_ h_ hp_ => by obtain ⟨rfl, rfl, hc_⟩ := hp_; exact v_xout F.2.2.2.2.2.1 htab (Nat.le_of_ble_eq_true rfl) (Nat.le_of_ble_eq_true rfl) (⟨rfl, rfl, hc_⟩))
  obtain ⟨rfl, rfl, hix0, hix1⟩ := hp_
  have hmq : K (ad r 0 (cIx r τ num)) = 1 := (hL0.2.2.2.2 _ hix0 hix1).2
  have hmqb := hM _ hmq
  have hpc := hPC _ hix0 hix1
  refine v_getf F (pc := 5) fd_X4_123_4 (v := .int (iI (τ 35 (ad r 0 (cIx r τ num))))) dX4_slotOf_5 (ch_m hk hmq) rfl ?_
  refine v_bipush F (pc := 8) dX4_slotOf_8 (by decide) ?_
  refine v_irem F (pc := 10) (a := τ 35 (ad r 0 (cIx r τ num))) (b := 20) dX4_slotOf_10 (by omega) (by omega) ?_
  refine v_iret F (pc := 11) (z := (iI ((τ 35 (ad r 0 (cIx r τ num))) % 20))) dX4_slotOf_11 rfl rfl (Nat.le_of_ble_eq_true rfl) (Nat.le_of_ble_eq_true rfl) ?_
  exact ⟨rfl, rfl, hix0, hix1⟩
-- X4_isDark
set_option maxRecDepth 100000 in
set_option maxHeartbeats 8000000 in
theorem k_X4_isDark (l : Launch) (g : gT) {P K : Nat → Nat} {r : Nat → Int → Option Nat} {cp : Nat → Nat} {b b' : Nat} {τ : sT} (hk : cok P K cp) (hb : b = 5 ∨ b = 12) (hb2 : b' = 5 ∨ b' = 12) (hV : CV K r cp τ) (hW : Wb τ b) (hPC : PC r τ) (num : Int) (hnum : -2147483648 ≤ num ∧ num ≤ 2147483647) : CM l g yX4_isDark cX4_isDark 2 (some .boolean) ({ frames := 12, cells := 1, slots := 6, locals := 183 }) [.ref (P 0), .int (iI (num))] (cheap g P K r cp b b' τ) (fun v h1 => v = some (.int (iI (bI (cDk τ (ad r 0 (cIx r τ num)))))) ∧ h1 = cheap g P K r cp b b' τ ∧ 0 ≤ cIx r τ num ∧ cIx r τ num < τ 53 0) (fun E h1 => E = "java/lang/IndexOutOfBoundsException" ∧ h1 = cheap g P K r cp b b' τ ∧ cIx r τ num = -1) := by
  refine CM.of (lo := [some (.ref (P 0)), some (.int (iI (num)))]) (by decide) (Nat.le_of_ble_eq_true rfl) (by simp [Value.category]) rfl ?_
  intro pX eX sX mX bX tX cX AX F htab hmn
  have F : Fx pX l sX mX ([.ref (P 0), .int (iI (num))] : List Value).toArray tX cX cX4_isDark 2 (some .boolean) RX4 g AX := F
  have hM := hV.1
  have hR := hV.2.1
  have hL0 := hV.2.2.1
  have hL1 := hV.2.2.2.1
  have hL2 := hV.2.2.2.2.1
  have hS20 := hV.2.2.2.2.2.1
  have hS21 := hV.2.2.2.2.2.2.1
  have hS22 := hV.2.2.2.2.2.2.2.1
  have hS2 := hV.2.2.2.2.2.2.2.2.1
  have hn8 : 0 ≤ τ 55 0 ∧ τ 55 0 ≤ 8 := ⟨hL2.1, hL2.2.2.2.1⟩
  have hn60 : 0 ≤ τ 53 0 ∧ τ 53 0 ≤ 60 := ⟨hL0.1, hL0.2.2.2.1⟩
  have hWb1 := hW.1
  have hWb2 := hW.2.1
  have hWb3 := hW.2.2.1
  have hWb5 := hW.2.2.2.1
  have hWb6 := hW.2.2.2.2
  refine v_aload_n F (pc := 0) dX4_isDark_0 rfl ?_
  refine v_aload_n F (pc := 1) dX4_isDark_1 rfl ?_
  refine v_iload_n F (pc := 2) dX4_isDark_2 rfl ?_
  refine v_callV F (pc := 3) (As := [.int (iI (num))]) (rest := [.ref (P 0)]) ci_X4_146 ct_X4_requireMachine cs_X4_requireMachine (k_X4_requireMachine l g hk hb hb2 hV hW hPC num (by omega)) dX4_isDark_3 (k0 := 7) rfl rfl (ch_0 hk) rfl rfl (Nat.le_of_ble_eq_true rfl) (Nat.le_of_ble_eq_true rfl) (Nat.le_of_ble_eq_true rfl) (Nat.le_of_ble_eq_true rfl) (Nat.le_of_ble_eq_true rfl) (fun v_ h_ hp_ => ?_) (fun E_ h_ hp_ => by obtain ⟨rfl, rfl, hc_⟩ := hp_; exact v_xout F.2.2.2.2.2.1 htab (Nat.le_of_ble_eq_true rfl) (Nat.le_of_ble_eq_true rfl) (⟨rfl, rfl, hc_⟩))
  obtain ⟨rfl, rfl, hix0, hix1⟩ := hp_
  have hmq : K (ad r 0 (cIx r τ num)) = 1 := (hL0.2.2.2.2 _ hix0 hix1).2
  have hmqb := hM _ hmq
  have hpc := hPC _ hix0 hix1
  refine v_callVp F (pc := 6) (As := [.ref (ad r 0 (cIx r τ num))]) (rest := []) ci_X4_107 ct_X4_hasNoFeed cs_X4_hasNoFeed (k_X4_hasNoFeed l g hk hb hb2 hV hW hPC hmq hmqb) dX4_isDark_6 (k0 := 7) rfl rfl (ch_0 hk) rfl rfl (Nat.le_of_ble_eq_true rfl) (Nat.le_of_ble_eq_true rfl) (Nat.le_of_ble_eq_true rfl) (Nat.le_of_ble_eq_true rfl) (Nat.le_of_ble_eq_true rfl) ?_ (fun _ _ z => z.elim)
  refine v_iret F (pc := 9) (z := (iI (bI (cDk τ (ad r 0 (cIx r τ num)))))) dX4_isDark_9 rfl (by first | rfl | exact nar_bI _ | decide) (Nat.le_of_ble_eq_true rfl) (Nat.le_of_ble_eq_true rfl) ?_
  exact ⟨rfl, rfl, hix0, hix1⟩
-- X4_machineAt
set_option maxRecDepth 100000 in
set_option maxHeartbeats 8000000 in
theorem k_X4_machineAt (l : Launch) (g : gT) {P K : Nat → Nat} {r : Nat → Int → Option Nat} {cp : Nat → Nat} {b b' : Nat} {τ : sT} (hk : cok P K cp) (hb : b = 5 ∨ b = 12) (hb2 : b' = 5 ∨ b' = 12) (hV : CV K r cp τ) (hW : Wb τ b) (hPC : PC r τ) (k : Int) (hkr : -2147483648 ≤ k ∧ k ≤ 2147483647) (s : Int) (hs : -2147483648 ≤ s ∧ s ≤ 2147483647) : CM l g yX4_machineAt cX4_machineAt 4 (some .int) ({ frames := 11, cells := 2, slots := 12, locals := 161 }) [.ref (P 0), .int (iI (k)), .int (iI (s))] (cheap g P K r cp b b' τ) (fun v h1 => v = some (.int (iI (τ (b + 1) (k * 20 + s)))) ∧ h1 = cheap g P K r cp b b' τ ∧ (0 ≤ k ∧ k < τ 55 0) ∧ 0 ≤ s ∧ s < τ 41 (ad r 2 k)) (fun E h1 => E = "java/lang/IndexOutOfBoundsException" ∧ h1 = cheap g P K r cp b b' τ ∧ ¬ ((0 ≤ k ∧ k < τ 55 0) ∧ 0 ≤ s ∧ s < τ 41 (ad r 2 k))) := by
  refine CM.of (lo := [some (.ref (P 0)), some (.int (iI (k))), some (.int (iI (s))), none]) (by decide) (Nat.le_of_ble_eq_true rfl) (by simp [Value.category]) rfl ?_
  intro pX eX sX mX bX tX cX AX F htab hmn
  have F : Fx pX l sX mX ([.ref (P 0), .int (iI (k)), .int (iI (s))] : List Value).toArray tX cX cX4_machineAt 4 (some .int) RX4 g AX := F
  have hM := hV.1
  have hR := hV.2.1
  have hL0 := hV.2.2.1
  have hL1 := hV.2.2.2.1
  have hL2 := hV.2.2.2.2.1
  have hS20 := hV.2.2.2.2.2.1
  have hS21 := hV.2.2.2.2.2.2.1
  have hS22 := hV.2.2.2.2.2.2.2.1
  have hS2 := hV.2.2.2.2.2.2.2.2.1
  have hn8 : 0 ≤ τ 55 0 ∧ τ 55 0 ≤ 8 := ⟨hL2.1, hL2.2.2.2.1⟩
  have hn60 : 0 ≤ τ 53 0 ∧ τ 53 0 ≤ 60 := ⟨hL0.1, hL0.2.2.2.1⟩
  have hWb1 := hW.1
  have hWb2 := hW.2.1
  have hWb3 := hW.2.2.1
  have hWb5 := hW.2.2.2.1
  have hWb6 := hW.2.2.2.2
  refine v_aload_n F (pc := 0) dX4_machineAt_0 rfl ?_
  refine v_iload_n F (pc := 1) dX4_machineAt_1 rfl ?_
  refine v_callV F (pc := 2) (As := [.int (iI (k))]) (rest := []) ci_X4_177 ct_X4_requireRack cs_X4_requireRack (k_X4_requireRack l g hk hb hb2 hV hW hPC k (by omega)) dX4_machineAt_2 (k0 := 7) rfl rfl (ch_0 hk) rfl rfl (Nat.le_of_ble_eq_true rfl) (Nat.le_of_ble_eq_true rfl) (Nat.le_of_ble_eq_true rfl) (Nat.le_of_ble_eq_true rfl) (Nat.le_of_ble_eq_true rfl) (fun v_ h_ hp_ => ?_) (fun E_ h_ hp_ => by obtain ⟨rfl, rfl, hc_⟩ := hp_; exact v_xout F.2.2.2.2.2.1 htab (Nat.le_of_ble_eq_true rfl) (Nat.le_of_ble_eq_true rfl) (⟨rfl, rfl, fun z_ => hc_ z_.1⟩))
  obtain ⟨rfl, rfl, kq_10, kq_11⟩ := hp_
  have kq_1 : K (ad r 2 k) = 2 := (hL2.2.2.2.2 _ kq_10 kq_11).2
  have kq_1b := hR _ kq_1
  refine v_astore_n F (pc := 5) (lo' := [some (.ref (P 0)), some (.int (iI (k))), some (.int (iI (s))), some (.ref (ad r 2 k))]) dX4_machineAt_5 (Nat.le_of_ble_eq_true rfl) rfl ?_
  refine v_iload_n F (pc := 6) dX4_machineAt_6 rfl ?_
  refine v_if_lt F (pc := 7) (a := s) 18 dX4_machineAt_7 (by decide) (by omega) (fun c_2 => ?_) (fun c_2 => ?_)
  · refine v_throw F (pc := 18) (text := "no such slot") fit_IndexOutOfBoundsException th_fit tk_X4_184 ti_IndexOutOfBoundsException (by decide) th_X4_184_188 tg_X4_184_188 htab dX4_machineAt_18 dX4_machineAt_21 dX4_machineAt_22 dX4_machineAt_24 dX4_machineAt_27 (Nat.le_of_ble_eq_true rfl) (Nat.le_of_ble_eq_true rfl) (Nat.le_of_ble_eq_true rfl) (Nat.le_of_ble_eq_true rfl) (Nat.le_of_ble_eq_true rfl) (Nat.le_of_ble_eq_true rfl) ?_
    exact ⟨rfl, rfl, by omega⟩
  · refine v_iload_n F (pc := 10) dX4_machineAt_10 rfl ?_
    refine v_aload_n F (pc := 11) dX4_machineAt_11 rfl ?_
    refine v_getf F (pc := 12) fd_X4_181_5 (v := .int (iI (τ 41 (ad r 2 k)))) dX4_machineAt_12 (ch_r hk kq_1) rfl ?_
    refine v_icmp_lt F (pc := 15) (a := s) (b := τ 41 (ad r 2 k)) 28 dX4_machineAt_15 (by decide) (by omega) (by omega) (fun c_3 => ?_) (fun c_3 => ?_)
    · refine v_aload_n F (pc := 28) dX4_machineAt_28 rfl ?_
      refine v_getf F (pc := 29) fd_X4_35_7 (v := .ref (P b)) dX4_machineAt_29 (ch_0 hk) rfl ?_
      refine v_getf F (pc := 32) fd_X4_189_3 (v := .ref (P (b + 1))) dX4_machineAt_32 (ch_lo hk hb) rfl ?_
      refine v_iload_n F (pc := 35) dX4_machineAt_35 rfl ?_
      refine v_iload_n F (pc := 36) dX4_machineAt_36 rfl ?_
      refine v_callSp F (pc := 37) (As := [.int (iI (k)), .int (iI (s))]) (rest := [.ref (P (b + 1))]) ci_X4_192 ct_X4_cellAt (k_X4_cellAt l g k s) dX4_machineAt_37 rfl rfl (Nat.le_of_ble_eq_true rfl) (Nat.le_of_ble_eq_true rfl) (Nat.le_of_ble_eq_true rfl) (Nat.le_of_ble_eq_true rfl) (Nat.le_of_ble_eq_true rfl) ?_ (fun _ _ z => z.elim)
      refine v_iald F (pc := 40) (n := 160) (f := τ (b + 1)) (z := k * 20 + s) dX4_machineAt_40 (ch_lc hk hb) (by omega) (by decide) ?_
      have bd_4 := hWb1 (k * 20 + s) (by omega) (by omega)
      refine v_iret F (pc := 41) (z := (iI ((τ (b + 1)) (k * 20 + s)))) dX4_machineAt_41 rfl rfl (Nat.le_of_ble_eq_true rfl) (Nat.le_of_ble_eq_true rfl) ?_
      exact ⟨rfl, rfl, ⟨by omega, by omega⟩, by omega, by omega⟩
    · refine v_throw F (pc := 18) (text := "no such slot") fit_IndexOutOfBoundsException th_fit tk_X4_184 ti_IndexOutOfBoundsException (by decide) th_X4_184_188 tg_X4_184_188 htab dX4_machineAt_18 dX4_machineAt_21 dX4_machineAt_22 dX4_machineAt_24 dX4_machineAt_27 (Nat.le_of_ble_eq_true rfl) (Nat.le_of_ble_eq_true rfl) (Nat.le_of_ble_eq_true rfl) (Nat.le_of_ble_eq_true rfl) (Nat.le_of_ble_eq_true rfl) (Nat.le_of_ble_eq_true rfl) ?_
      exact ⟨rfl, rfl, by omega⟩
-- X4_next
set_option maxRecDepth 100000 in
set_option maxHeartbeats 8000000 in
theorem k_X4_next (l : Launch) (g : gT) {P K : Nat → Nat} {r : Nat → Int → Option Nat} {cp : Nat → Nat} {b b' : Nat} {τ : sT} (hk : cok P K cp) (hb : b = 5 ∨ b = 12) (hb2 : b' = 5 ∨ b' = 12) (hV : CV K r cp τ) (hW : Wb τ b) (hPC : PC r τ) (num : Int) (hnum : -2147483648 ≤ num ∧ num ≤ 2147483647) : CM l g yX4_next cX4_next 3 (some .int) ({ frames := 12, cells := 1, slots := 6, locals := 183 }) [.ref (P 0), .int (iI (num))] (cheap g P K r cp b b' τ) (fun v h1 => h1 = cheap g P K r cp b b' τ ∧ ((num = -1 ∧ v = some (.int (iI (cFst τ (b + 1) 0)))) ∨ (num ≠ -1 ∧ 0 ≤ cIx r τ num ∧ cIx r τ num < τ 53 0 ∧ v = some (.int (iI (cFst τ (b + 1) (τ 35 (ad r 0 (cIx r τ num)) + τ 31 (ad r 0 (cIx r τ num))))))))) (fun E h1 => E = "java/lang/IndexOutOfBoundsException" ∧ h1 = cheap g P K r cp b b' τ ∧ num ≠ -1 ∧ cIx r τ num = -1) := by
  refine CM.of (lo := [some (.ref (P 0)), some (.int (iI (num))), none]) (by decide) (Nat.le_of_ble_eq_true rfl) (by simp [Value.category]) rfl ?_
  intro pX eX sX mX bX tX cX AX F htab hmn
  have F : Fx pX l sX mX ([.ref (P 0), .int (iI (num))] : List Value).toArray tX cX cX4_next 3 (some .int) RX4 g AX := F
  have hM := hV.1
  have hR := hV.2.1
  have hL0 := hV.2.2.1
  have hL1 := hV.2.2.2.1
  have hL2 := hV.2.2.2.2.1
  have hS20 := hV.2.2.2.2.2.1
  have hS21 := hV.2.2.2.2.2.2.1
  have hS22 := hV.2.2.2.2.2.2.2.1
  have hS2 := hV.2.2.2.2.2.2.2.2.1
  have hn8 : 0 ≤ τ 55 0 ∧ τ 55 0 ≤ 8 := ⟨hL2.1, hL2.2.2.2.1⟩
  have hn60 : 0 ≤ τ 53 0 ∧ τ 53 0 ≤ 60 := ⟨hL0.1, hL0.2.2.2.1⟩
  have hWb1 := hW.1
  have hWb2 := hW.2.1
  have hWb3 := hW.2.2.1
  have hWb5 := hW.2.2.2.1
  have hWb6 := hW.2.2.2.2
  refine v_iload_n F (pc := 0) dX4_next_0 rfl ?_
  refine v_iconst F (pc := 1) dX4_next_1 ?_
  refine v_icmp_ne F (pc := 2) (a := num) (b := -1) 14 dX4_next_2 (by decide) (by omega) (by omega) (fun c_1 => ?_) (fun c_1 => ?_)
  · have hq9 := c_1
    refine v_aload_n F (pc := 14) dX4_next_14 rfl ?_
    refine v_iload_n F (pc := 15) dX4_next_15 rfl ?_
    refine v_callV F (pc := 16) (As := [.int (iI (num))]) (rest := []) ci_X4_146 ct_X4_requireMachine cs_X4_requireMachine (k_X4_requireMachine l g hk hb hb2 hV hW hPC num (by omega)) dX4_next_16 (k0 := 7) rfl rfl (ch_0 hk) rfl rfl (Nat.le_of_ble_eq_true rfl) (Nat.le_of_ble_eq_true rfl) (Nat.le_of_ble_eq_true rfl) (Nat.le_of_ble_eq_true rfl) (Nat.le_of_ble_eq_true rfl) (fun v_ h_ hp_ => ?_) (fun E_ h_ hp_ => by obtain ⟨rfl, rfl, hc_⟩ := hp_; exact v_xout F.2.2.2.2.2.1 htab (Nat.le_of_ble_eq_true rfl) (Nat.le_of_ble_eq_true rfl) (⟨rfl, rfl, hq9, hc_⟩))
    obtain ⟨rfl, rfl, hix0, hix1⟩ := hp_
    have hmq : K (ad r 0 (cIx r τ num)) = 1 := (hL0.2.2.2.2 _ hix0 hix1).2
    have hmqb := hM _ hmq
    have hpc := hPC _ hix0 hix1
    refine v_astore_n F (pc := 19) (lo' := [some (.ref (P 0)), some (.int (iI (num))), some (.ref (ad r 0 (cIx r τ num)))]) dX4_next_19 (Nat.le_of_ble_eq_true rfl) rfl ?_
    refine v_aload_n F (pc := 20) dX4_next_20 rfl ?_
    refine v_getf F (pc := 21) fd_X4_35_7 (v := .ref (P b)) dX4_next_21 (ch_0 hk) rfl ?_
    refine v_aload_n F (pc := 24) dX4_next_24 rfl ?_
    refine v_getf F (pc := 25) fd_X4_123_4 (v := .int (iI (τ 35 (ad r 0 (cIx r τ num))))) dX4_next_25 (ch_m hk hmq) rfl ?_
    refine v_aload_n F (pc := 28) dX4_next_28 rfl ?_
    refine v_getf F (pc := 29) fd_X4_199_4 (v := .int (iI (τ 31 (ad r 0 (cIx r τ num))))) dX4_next_29 (ch_m hk hmq) rfl ?_
    refine v_iadd F (pc := 32) (a := τ 35 (ad r 0 (cIx r τ num))) (b := τ 31 (ad r 0 (cIx r τ num))) dX4_next_32 ?_
    refine v_callVp F (pc := 33) (As := [.int (iI ((τ 35 (ad r 0 (cIx r τ num))) + (τ 31 (ad r 0 (cIx r τ num)))))]) (rest := []) ci_X4_196 ct_X0_firstFrom cs_X0_firstFrom (k_X0_firstFrom l g hb hk (τ := τ) (K := K) (r := r) (cp := cp) (b := b) (b' := b') hV hW ((τ 35 (ad r 0 (cIx r τ num))) + (τ 31 (ad r 0 (cIx r τ num)))) (by omega)) dX4_next_33 (k0 := 3) rfl rfl (ch_lo hk hb) rfl rfl (Nat.le_of_ble_eq_true rfl) (Nat.le_of_ble_eq_true rfl) (Nat.le_of_ble_eq_true rfl) (Nat.le_of_ble_eq_true rfl) (Nat.le_of_ble_eq_true rfl) ?_ (fun _ _ z => z.elim)
    refine v_iret F (pc := 36) (z := (iI (cFst τ (b + 1) ((τ 35 (ad r 0 (cIx r τ num))) + (τ 31 (ad r 0 (cIx r τ num))))))) dX4_next_36 rfl rfl (Nat.le_of_ble_eq_true rfl) (Nat.le_of_ble_eq_true rfl) ?_
    exact ⟨rfl, Or.inr ⟨hq9, hix0, hix1, rfl⟩⟩
  · have hq9 := c_1
    refine v_aload_n F (pc := 5) dX4_next_5 rfl ?_
    refine v_getf F (pc := 6) fd_X4_35_7 (v := .ref (P b)) dX4_next_6 (ch_0 hk) rfl ?_
    refine v_iconst F (pc := 9) dX4_next_9 ?_
    refine v_callVp F (pc := 10) (As := [.int (iI (0))]) (rest := []) ci_X4_196 ct_X0_firstFrom cs_X0_firstFrom (k_X0_firstFrom l g hb hk (τ := τ) (K := K) (r := r) (cp := cp) (b := b) (b' := b') hV hW 0 (by omega)) dX4_next_10 (k0 := 3) rfl rfl (ch_lo hk hb) rfl rfl (Nat.le_of_ble_eq_true rfl) (Nat.le_of_ble_eq_true rfl) (Nat.le_of_ble_eq_true rfl) (Nat.le_of_ble_eq_true rfl) (Nat.le_of_ble_eq_true rfl) ?_ (fun _ _ z => z.elim)
    refine v_iret F (pc := 13) (z := (iI (cFst τ (b + 1) 0))) dX4_next_13 rfl rfl (Nat.le_of_ble_eq_true rfl) (Nat.le_of_ble_eq_true rfl) ?_
    exact ⟨rfl, Or.inl ⟨hq9, rfl⟩⟩
-- X4_powerOf
set_option maxRecDepth 100000 in
set_option maxHeartbeats 8000000 in
theorem k_X4_powerOf (l : Launch) (g : gT) {P K : Nat → Nat} {r : Nat → Int → Option Nat} {cp : Nat → Nat} {b b' : Nat} {τ : sT} (hk : cok P K cp) (hb : b = 5 ∨ b = 12) (hb2 : b' = 5 ∨ b' = 12) (hV : CV K r cp τ) (hW : Wb τ b) (hPC : PC r τ) (k : Int) (hkr : -2147483648 ≤ k ∧ k ≤ 2147483647) (f : Int) (hf : -2147483648 ≤ f ∧ f ≤ 2147483647) : CM l g yX4_powerOf cX4_powerOf 6 (some .int) ({ frames := 12, cells := 2, slots := 12, locals := 182 }) [.ref (P 0), .int (iI (k)), .int (iI (f))] (cheap g P K r cp b b' τ) (fun v h1 => v = some (.int (iI (sm (cPt r τ k f) (τ 53 0)))) ∧ h1 = cheap g P K r cp b b' τ ∧ (0 ≤ k ∧ k < τ 55 0) ∧ 0 ≤ f ∧ f ≤ 1) (fun E h1 => h1 = cheap g P K r cp b b' τ ∧ ((E = "java/lang/IndexOutOfBoundsException" ∧ ¬ (0 ≤ k ∧ k < τ 55 0)) ∨ (E = "java/lang/IllegalArgumentException" ∧ (0 ≤ k ∧ k < τ 55 0) ∧ ¬ (0 ≤ f ∧ f ≤ 1)))) := by
  refine CM.of (lo := [some (.ref (P 0)), some (.int (iI (k))), some (.int (iI (f))), none, none, none]) (by decide) (Nat.le_of_ble_eq_true rfl) (by simp [Value.category]) rfl ?_
  intro pX eX sX mX bX tX cX AX F htab hmn
  have F : Fx pX l sX mX ([.ref (P 0), .int (iI (k)), .int (iI (f))] : List Value).toArray tX cX cX4_powerOf 6 (some .int) RX4 g AX := F
  have hM := hV.1
  have hR := hV.2.1
  have hL0 := hV.2.2.1
  have hL1 := hV.2.2.2.1
  have hL2 := hV.2.2.2.2.1
  have hS20 := hV.2.2.2.2.2.1
  have hS21 := hV.2.2.2.2.2.2.1
  have hS22 := hV.2.2.2.2.2.2.2.1
  have hS2 := hV.2.2.2.2.2.2.2.2.1
  have hn8 : 0 ≤ τ 55 0 ∧ τ 55 0 ≤ 8 := ⟨hL2.1, hL2.2.2.2.1⟩
  have hn60 : 0 ≤ τ 53 0 ∧ τ 53 0 ≤ 60 := ⟨hL0.1, hL0.2.2.2.1⟩
  have hWb1 := hW.1
  have hWb2 := hW.2.1
  have hWb3 := hW.2.2.1
  have hWb5 := hW.2.2.2.1
  have hWb6 := hW.2.2.2.2
  refine v_aload_n F (pc := 0) dX4_powerOf_0 rfl ?_
  refine v_iload_n F (pc := 1) dX4_powerOf_1 rfl ?_
  refine v_callV F (pc := 2) (As := [.int (iI (k))]) (rest := []) ci_X4_177 ct_X4_requireRack cs_X4_requireRack (k_X4_requireRack l g hk hb hb2 hV hW hPC k (by omega)) dX4_powerOf_2 (k0 := 7) rfl rfl (ch_0 hk) rfl rfl (Nat.le_of_ble_eq_true rfl) (Nat.le_of_ble_eq_true rfl) (Nat.le_of_ble_eq_true rfl) (Nat.le_of_ble_eq_true rfl) (Nat.le_of_ble_eq_true rfl) (fun v_ h_ hp_ => ?_) (fun E_ h_ hp_ => by obtain ⟨rfl, rfl, hc_⟩ := hp_; exact v_xout F.2.2.2.2.2.1 htab (Nat.le_of_ble_eq_true rfl) (Nat.le_of_ble_eq_true rfl) (⟨rfl, Or.inl ⟨rfl, hc_⟩⟩))
  obtain ⟨rfl, rfl, kq_10, kq_11⟩ := hp_
  have kq_1 : K (ad r 2 k) = 2 := (hL2.2.2.2.2 _ kq_10 kq_11).2
  have kq_1b := hR _ kq_1
  refine v_pop F (pc := 5) dX4_powerOf_5 rfl ?_
  refine v_iload_n F (pc := 6) dX4_powerOf_6 rfl ?_
  refine v_callS F (pc := 7) (As := [.int (iI (f))]) (rest := []) ci_X4_89 ct_X4_requireFeed (k_X4_requireFeed l g f (by omega)) dX4_powerOf_7 rfl rfl (Nat.le_of_ble_eq_true rfl) (Nat.le_of_ble_eq_true rfl) (Nat.le_of_ble_eq_true rfl) (Nat.le_of_ble_eq_true rfl) (Nat.le_of_ble_eq_true rfl) (fun v_ h_ hp_ => ?_) (fun E_ h_ hp_ => by obtain ⟨rfl, rfl, hc_⟩ := hp_; exact v_xout F.2.2.2.2.2.1 htab (Nat.le_of_ble_eq_true rfl) (Nat.le_of_ble_eq_true rfl) (⟨rfl, Or.inr ⟨rfl, ⟨by omega, by omega⟩, hc_⟩⟩))
  obtain ⟨rfl, rfl, rr_2a, rr_2b⟩ := hp_
  refine v_iconst F (pc := 10) dX4_powerOf_10 ?_
  refine v_istore_n F (pc := 11) (lo' := [some (.ref (P 0)), some (.int (iI (k))), some (.int (iI (f))), some (.int (iI (0))), none, none]) dX4_powerOf_11 (Nat.le_of_ble_eq_true rfl) rfl ?_
  refine v_iconst F (pc := 12) dX4_powerOf_12 ?_
  refine v_istore F (pc := 13) (lo' := [some (.ref (P 0)), some (.int (iI (k))), some (.int (iI (f))), some (.int (iI (0))), some (.int (iI (0))), none]) dX4_powerOf_13 (Nat.le_of_ble_eq_true rfl) rfl ?_
  have hpc9 := hPC
  have LP15 : ∀ (N_ : Nat) (j : Int), (0 ≤ j) → (j ≤ (τ 53 0)) → ((τ 53 0) - j).toNat < N_ → VE pX l eX ({ frames := 12, cells := 2, slots := 12, locals := 182 }) sX mX ([.ref (P 0), .int (iI (k)), .int (iI (f))] : List Value).toArray bX tX cX 6 g AX (cheap g P K r cp b b' τ) 2 12 15 [some (.ref (P 0)), some (.int (iI (k))), some (.int (iI (f))), some (.int (iI (sm (cPt r τ k f) j))), some (.int (iI (j))), none] [] (fun v h1 => v = some (.int (iI (sm (cPt r τ k f) (τ 53 0)))) ∧ h1 = cheap g P K r cp b b' τ ∧ (0 ≤ k ∧ k < τ 55 0) ∧ 0 ≤ f ∧ f ≤ 1) (fun E h1 => h1 = cheap g P K r cp b b' τ ∧ ((E = "java/lang/IndexOutOfBoundsException" ∧ ¬ (0 ≤ k ∧ k < τ 55 0)) ∨ (E = "java/lang/IllegalArgumentException" ∧ (0 ≤ k ∧ k < τ 55 0) ∧ ¬ (0 ≤ f ∧ f ≤ 1)))) 2 12 := by
    intro N_
    induction N_ with
    | zero => intro j _ _ hm_; exact absurd hm_ (Nat.not_lt_zero _)
    | succ N_ ih =>
      intro j hj0 hj1 hm_
      refine v_iload F (pc := 15) dX4_powerOf_15 rfl ?_
      refine v_aload_n F (pc := 17) dX4_powerOf_17 rfl ?_
      refine v_getf F (pc := 18) fd_X4_23_7 (v := .ref (P 3)) dX4_powerOf_18 (ch_0 hk) rfl ?_
      refine v_callVp F (pc := 21) (As := []) (rest := [.int (iI (j))]) ci_X4_53 ct_Jx4a65c_size_8abf5 cs_Jx4a65c_size_8abf5 (k_Jx4a65c_size_8abf5 l g (n := τ 53 0) (ch_3 hk)) dX4_powerOf_21 (k0 := 2) rfl rfl (ch_3 hk) rfl rfl (Nat.le_of_ble_eq_true rfl) (Nat.le_of_ble_eq_true rfl) (Nat.le_of_ble_eq_true rfl) (Nat.le_of_ble_eq_true rfl) (Nat.le_of_ble_eq_true rfl) ?_ (fun _ _ z => z.elim)
      refine v_icmp_ge F (pc := 24) (a := j) (b := τ 53 0) 69 dX4_powerOf_24 (by decide) (by omega) (by omega) (fun c_3 => ?_) (fun c_3 => ?_)
      · refine v_iload_n F (pc := 69) dX4_powerOf_69 rfl ?_
        refine v_iret F (pc := 70) (z := (iI (sm (cPt r τ k f) j))) dX4_powerOf_70 rfl rfl (Nat.le_of_ble_eq_true rfl) (Nat.le_of_ble_eq_true rfl) ?_
        exact ⟨by rw [show j = τ 53 0 by omega], rfl, ⟨by omega, by omega⟩, by omega, by omega⟩
      · refine v_aload_n F (pc := 27) dX4_powerOf_27 rfl ?_
        refine v_getf F (pc := 28) fd_X4_23_7 (v := .ref (P 3)) dX4_powerOf_28 (ch_0 hk) rfl ?_
        refine v_iload F (pc := 31) dX4_powerOf_31 rfl ?_
        refine v_callVp F (pc := 33) (As := [.int (iI (j))]) (rest := []) ci_X4_101 ct_Jx4a65c_get_915e3 cs_Jx4a65c_get_915e3 (kl_get0 l g (τ := τ) (r := r) (cp := cp) hk hL0 (k := j) (by omega) (show (j : Int) < τ 53 0 by omega)) dX4_powerOf_33 (k0 := 2) rfl rfl (ch_3 hk) rfl rfl (Nat.le_of_ble_eq_true rfl) (Nat.le_of_ble_eq_true rfl) (Nat.le_of_ble_eq_true rfl) (Nat.le_of_ble_eq_true rfl) (Nat.le_of_ble_eq_true rfl) ?_ (fun _ _ z => z.elim)
        have kq_4 : K (ad r 0 j) = 1 := (hL0.2.2.2.2 j (by omega) (show (j : Int) < τ 53 0 by omega)).2
        have kq_4b := hM _ kq_4
        refine v_castS F (pc := 36) (ci := 4) rfl tk_X4_105 dX4_powerOf_36 (ch_m hk kq_4) ?_
        refine v_astore F (pc := 39) (lo' := [some (.ref (P 0)), some (.int (iI (k))), some (.int (iI (f))), some (.int (iI (sm (cPt r τ k f) j))), some (.int (iI (j))), some (.ref (ad r 0 j))]) dX4_powerOf_39 (Nat.le_of_ble_eq_true rfl) rfl ?_
        refine v_aload F (pc := 41) dX4_powerOf_41 rfl ?_
        refine v_getf F (pc := 43) fd_X4_123_4 (v := .int (iI (τ 35 (ad r 0 j)))) dX4_powerOf_43 (ch_m hk kq_4) rfl ?_
        have hpcj := hPC j hj0 (by omega)
        refine v_callSp F (pc := 46) (As := [.int (iI (τ 35 (ad r 0 j)))]) (rest := []) ci_X4_143 ct_X4_rackOfCell (k_X4_rackOfCell l g (τ 35 (ad r 0 j)) (by omega)) dX4_powerOf_46 rfl rfl (Nat.le_of_ble_eq_true rfl) (Nat.le_of_ble_eq_true rfl) (Nat.le_of_ble_eq_true rfl) (Nat.le_of_ble_eq_true rfl) (Nat.le_of_ble_eq_true rfl) ?_ (fun _ _ z => z.elim)
        refine v_iload_n F (pc := 49) dX4_powerOf_49 rfl ?_
        refine v_icmp_ne F (pc := 50) (a := (τ 35 (ad r 0 j)) / 20) (b := k) 63 dX4_powerOf_50 (by decide) (by omega) (by omega) (fun c_5 => ?_) (fun c_5 => ?_)
        · have hq9 := c_5
          refine v_iinc F (pc := 63) (lo' := [some (.ref (P 0)), some (.int (iI (k))), some (.int (iI (f))), some (.int (iI (sm (cPt r τ k f) j))), some (.int (iI (j + 1))), some (.ref (ad r 0 j))]) dX4_powerOf_63 rfl (Nat.le_of_ble_eq_true rfl) rfl ?_
          refine v_goto F (pc := 66) 15 dX4_powerOf_66 (by decide) ?_
          have hpc9 := hPC
          have e_0 : sm (cPt r τ k f) (j + 1) = sm (cPt r τ k f) j := by rw [sm_s _ hj0, show cPt r τ k f j = 0 from if_neg hq9]; omega
          have ih2 := ih (j + 1) (by omega) (by omega)  (by omega)
          rw [e_0] at ih2
          exact V.fg (ih2) ⟨rfl, ⟨rfl, ⟨rfl, ⟨rfl, ⟨rfl, trivial⟩⟩⟩⟩⟩
        · have hq9 := c_5
          refine v_iload_n F (pc := 53) dX4_powerOf_53 rfl ?_
          refine v_aload_n F (pc := 54) dX4_powerOf_54 rfl ?_
          refine v_aload F (pc := 55) dX4_powerOf_55 rfl ?_
          refine v_iload_n F (pc := 57) dX4_powerOf_57 rfl ?_
          refine v_callVp F (pc := 58) (As := [.ref (ad r 0 j), .int (iI (f))]) (rest := [.int (iI (sm (cPt r τ k f) j))]) ci_X4_200 ct_X4_powerNow cs_X4_powerNow (k_X4_powerNow l g hk hb hb2 hV hW hPC kq_4 kq_4b f (by omega)) dX4_powerOf_58 (k0 := 7) rfl rfl (ch_0 hk) rfl rfl (Nat.le_of_ble_eq_true rfl) (Nat.le_of_ble_eq_true rfl) (Nat.le_of_ble_eq_true rfl) (Nat.le_of_ble_eq_true rfl) (Nat.le_of_ble_eq_true rfl) ?_ (fun _ _ z => z.elim)
          refine v_iadd F (pc := 61) (a := sm (cPt r τ k f) j) (b := cTk τ (ad r 0 j) f) dX4_powerOf_61 ?_
          refine v_istore_n F (pc := 62) (lo' := [some (.ref (P 0)), some (.int (iI (k))), some (.int (iI (f))), some (.int (iI ((sm (cPt r τ k f) j) + (cTk τ (ad r 0 j) f)))), some (.int (iI (j))), some (.ref (ad r 0 j))]) dX4_powerOf_62 (Nat.le_of_ble_eq_true rfl) rfl ?_
          refine v_iinc F (pc := 63) (lo' := [some (.ref (P 0)), some (.int (iI (k))), some (.int (iI (f))), some (.int (iI ((sm (cPt r τ k f) j) + (cTk τ (ad r 0 j) f)))), some (.int (iI (j + 1))), some (.ref (ad r 0 j))]) dX4_powerOf_63 rfl (Nat.le_of_ble_eq_true rfl) rfl ?_
          refine v_goto F (pc := 66) 15 dX4_powerOf_66 (by decide) ?_
          have hpc9 := hPC
          have e_0 : sm (cPt r τ k f) (j + 1) = (sm (cPt r τ k f) j) + (cTk τ (ad r 0 j) f) := by rw [sm_s _ hj0]; exact congrArg (fun z => sm (cPt r τ k f) j + z) (if_pos hq9)
          have ih2 := ih (j + 1) (by omega) (by omega)  (by omega)
          rw [e_0] at ih2
          exact V.fg (ih2) ⟨rfl, ⟨rfl, ⟨rfl, ⟨rfl, ⟨rfl, trivial⟩⟩⟩⟩⟩
  exact V.fg (LP15 _ 0 (Int.le_refl _) (by omega)  (Nat.lt_succ_self _)) ⟨rfl, ⟨rfl, ⟨rfl, ⟨rfl, ⟨rfl, trivial⟩⟩⟩⟩⟩
-- X4_worstOf
set_option maxRecDepth 100000 in
set_option maxHeartbeats 8000000 in
theorem k_X4_worstOf (l : Launch) (g : gT) {P K : Nat → Nat} {r : Nat → Int → Option Nat} {cp : Nat → Nat} {b b' : Nat} {τ : sT} (hk : cok P K cp) (hb : b = 5 ∨ b = 12) (hb2 : b' = 5 ∨ b' = 12) (hV : CV K r cp τ) (hW : Wb τ b) (hPC : PC r τ) (k : Int) (hkr : -2147483648 ≤ k ∧ k ≤ 2147483647) (f : Int) (hf : -2147483648 ≤ f ∧ f ≤ 2147483647) : CM l g yX4_worstOf cX4_worstOf 3 (some .int) ({ frames := 12, cells := 2, slots := 12, locals := 182 }) [.ref (P 0), .int (iI (k)), .int (iI (f))] (cheap g P K r cp b b' τ) (fun v h1 => v = some (.int (iI (τ (b + 5 + f.toNat) k))) ∧ h1 = cheap g P K r cp b b' τ ∧ (0 ≤ k ∧ k < τ 55 0) ∧ 0 ≤ f ∧ f ≤ 1) (fun E h1 => h1 = cheap g P K r cp b b' τ ∧ ((E = "java/lang/IndexOutOfBoundsException" ∧ ¬ (0 ≤ k ∧ k < τ 55 0)) ∨ (E = "java/lang/IllegalArgumentException" ∧ (0 ≤ k ∧ k < τ 55 0) ∧ ¬ (0 ≤ f ∧ f ≤ 1)))) := by
  refine CM.of (lo := [some (.ref (P 0)), some (.int (iI (k))), some (.int (iI (f)))]) (by decide) (Nat.le_of_ble_eq_true rfl) (by simp [Value.category]) rfl ?_
  intro pX eX sX mX bX tX cX AX F htab hmn
  have F : Fx pX l sX mX ([.ref (P 0), .int (iI (k)), .int (iI (f))] : List Value).toArray tX cX cX4_worstOf 3 (some .int) RX4 g AX := F
  have hM := hV.1
  have hR := hV.2.1
  have hL0 := hV.2.2.1
  have hL1 := hV.2.2.2.1
  have hL2 := hV.2.2.2.2.1
  have hS20 := hV.2.2.2.2.2.1
  have hS21 := hV.2.2.2.2.2.2.1
  have hS22 := hV.2.2.2.2.2.2.2.1
  have hS2 := hV.2.2.2.2.2.2.2.2.1
  have hn8 : 0 ≤ τ 55 0 ∧ τ 55 0 ≤ 8 := ⟨hL2.1, hL2.2.2.2.1⟩
  have hn60 : 0 ≤ τ 53 0 ∧ τ 53 0 ≤ 60 := ⟨hL0.1, hL0.2.2.2.1⟩
  have hWb1 := hW.1
  have hWb2 := hW.2.1
  have hWb3 := hW.2.2.1
  have hWb5 := hW.2.2.2.1
  have hWb6 := hW.2.2.2.2
  refine v_aload_n F (pc := 0) dX4_worstOf_0 rfl ?_
  refine v_iload_n F (pc := 1) dX4_worstOf_1 rfl ?_
  refine v_callV F (pc := 2) (As := [.int (iI (k))]) (rest := []) ci_X4_177 ct_X4_requireRack cs_X4_requireRack (k_X4_requireRack l g hk hb hb2 hV hW hPC k (by omega)) dX4_worstOf_2 (k0 := 7) rfl rfl (ch_0 hk) rfl rfl (Nat.le_of_ble_eq_true rfl) (Nat.le_of_ble_eq_true rfl) (Nat.le_of_ble_eq_true rfl) (Nat.le_of_ble_eq_true rfl) (Nat.le_of_ble_eq_true rfl) (fun v_ h_ hp_ => ?_) (fun E_ h_ hp_ => by obtain ⟨rfl, rfl, hc_⟩ := hp_; exact v_xout F.2.2.2.2.2.1 htab (Nat.le_of_ble_eq_true rfl) (Nat.le_of_ble_eq_true rfl) (⟨rfl, Or.inl ⟨rfl, hc_⟩⟩))
  obtain ⟨rfl, rfl, kq_10, kq_11⟩ := hp_
  have kq_1 : K (ad r 2 k) = 2 := (hL2.2.2.2.2 _ kq_10 kq_11).2
  have kq_1b := hR _ kq_1
  refine v_pop F (pc := 5) dX4_worstOf_5 rfl ?_
  refine v_iload_n F (pc := 6) dX4_worstOf_6 rfl ?_
  refine v_callS F (pc := 7) (As := [.int (iI (f))]) (rest := []) ci_X4_89 ct_X4_requireFeed (k_X4_requireFeed l g f (by omega)) dX4_worstOf_7 rfl rfl (Nat.le_of_ble_eq_true rfl) (Nat.le_of_ble_eq_true rfl) (Nat.le_of_ble_eq_true rfl) (Nat.le_of_ble_eq_true rfl) (Nat.le_of_ble_eq_true rfl) (fun v_ h_ hp_ => ?_) (fun E_ h_ hp_ => by obtain ⟨rfl, rfl, hc_⟩ := hp_; exact v_xout F.2.2.2.2.2.1 htab (Nat.le_of_ble_eq_true rfl) (Nat.le_of_ble_eq_true rfl) (⟨rfl, Or.inr ⟨rfl, ⟨by omega, by omega⟩, hc_⟩⟩))
  obtain ⟨rfl, rfl, rr_2a, rr_2b⟩ := hp_
  refine v_aload_n F (pc := 10) dX4_worstOf_10 rfl ?_
  refine v_getf F (pc := 11) fd_X4_35_7 (v := .ref (P b)) dX4_worstOf_11 (ch_0 hk) rfl ?_
  refine v_getf F (pc := 14) fd_X4_204_3 (v := .ref (P (b + 4))) dX4_worstOf_14 (ch_lo hk hb) rfl ?_
  refine v_iload_n F (pc := 17) dX4_worstOf_17 rfl ?_
  refine v_aaldA F (pc := 18) (n := 2) (r := cout P b) (z := f) (q := P (b + 5 + f.toNat)) dX4_worstOf_18 (ch_lx hk hb) (by omega) (by decide) (cout_fd (by omega)) ?_
  refine v_iload_n F (pc := 19) dX4_worstOf_19 rfl ?_
  refine v_iald F (pc := 20) (n := 8) (f := τ (b + 5 + f.toNat)) (z := k) dX4_worstOf_20 (ch_lf hk hb (z := f) (by omega)) (by omega) (by decide) ?_
  refine v_iret F (pc := 21) (z := (iI ((τ (b + 5 + f.toNat)) k))) dX4_worstOf_21 rfl rfl (Nat.le_of_ble_eq_true rfl) (Nat.le_of_ble_eq_true rfl) ?_
  exact ⟨rfl, rfl, ⟨by omega, by omega⟩, by omega, by omega⟩
-- X4_weightOf
set_option maxRecDepth 100000 in
set_option maxHeartbeats 8000000 in
theorem k_X4_weightOf (l : Launch) (g : gT) {P K : Nat → Nat} {r : Nat → Int → Option Nat} {cp : Nat → Nat} {b b' : Nat} {τ : sT} (hk : cok P K cp) (hb : b = 5 ∨ b = 12) (hb2 : b' = 5 ∨ b' = 12) (hV : CV K r cp τ) (hW : Wb τ b) (hPC : PC r τ) (k : Int) (hkr : -2147483648 ≤ k ∧ k ≤ 2147483647) : CM l g yX4_weightOf cX4_weightOf 2 (some .int) ({ frames := 11, cells := 1, slots := 6, locals := 161 }) [.ref (P 0), .int (iI (k))] (cheap g P K r cp b b' τ) (fun v h1 => v = some (.int (iI (τ (b + 2) k))) ∧ h1 = cheap g P K r cp b b' τ ∧ 0 ≤ k ∧ k < τ 55 0) (fun E h1 => E = "java/lang/IndexOutOfBoundsException" ∧ h1 = cheap g P K r cp b b' τ ∧ ¬ (0 ≤ k ∧ k < τ 55 0)) := by
  refine CM.of (lo := [some (.ref (P 0)), some (.int (iI (k)))]) (by decide) (Nat.le_of_ble_eq_true rfl) (by simp [Value.category]) rfl ?_
  intro pX eX sX mX bX tX cX AX F htab hmn
  have F : Fx pX l sX mX ([.ref (P 0), .int (iI (k))] : List Value).toArray tX cX cX4_weightOf 2 (some .int) RX4 g AX := F
  have hM := hV.1
  have hR := hV.2.1
  have hL0 := hV.2.2.1
  have hL1 := hV.2.2.2.1
  have hL2 := hV.2.2.2.2.1
  have hS20 := hV.2.2.2.2.2.1
  have hS21 := hV.2.2.2.2.2.2.1
  have hS22 := hV.2.2.2.2.2.2.2.1
  have hS2 := hV.2.2.2.2.2.2.2.2.1
  have hn8 : 0 ≤ τ 55 0 ∧ τ 55 0 ≤ 8 := ⟨hL2.1, hL2.2.2.2.1⟩
  have hn60 : 0 ≤ τ 53 0 ∧ τ 53 0 ≤ 60 := ⟨hL0.1, hL0.2.2.2.1⟩
  have hWb1 := hW.1
  have hWb2 := hW.2.1
  have hWb3 := hW.2.2.1
  have hWb5 := hW.2.2.2.1
  have hWb6 := hW.2.2.2.2
  refine v_aload_n F (pc := 0) dX4_weightOf_0 rfl ?_
  refine v_iload_n F (pc := 1) dX4_weightOf_1 rfl ?_
  refine v_callV F (pc := 2) (As := [.int (iI (k))]) (rest := []) ci_X4_177 ct_X4_requireRack cs_X4_requireRack (k_X4_requireRack l g hk hb hb2 hV hW hPC k (by omega)) dX4_weightOf_2 (k0 := 7) rfl rfl (ch_0 hk) rfl rfl (Nat.le_of_ble_eq_true rfl) (Nat.le_of_ble_eq_true rfl) (Nat.le_of_ble_eq_true rfl) (Nat.le_of_ble_eq_true rfl) (Nat.le_of_ble_eq_true rfl) (fun v_ h_ hp_ => ?_) (fun E_ h_ hp_ => by obtain ⟨rfl, rfl, hc_⟩ := hp_; exact v_xout F.2.2.2.2.2.1 htab (Nat.le_of_ble_eq_true rfl) (Nat.le_of_ble_eq_true rfl) (⟨rfl, rfl, hc_⟩))
  obtain ⟨rfl, rfl, kq_10, kq_11⟩ := hp_
  have kq_1 : K (ad r 2 k) = 2 := (hL2.2.2.2.2 _ kq_10 kq_11).2
  have kq_1b := hR _ kq_1
  refine v_pop F (pc := 5) dX4_weightOf_5 rfl ?_
  refine v_aload_n F (pc := 6) dX4_weightOf_6 rfl ?_
  refine v_getf F (pc := 7) fd_X4_35_7 (v := .ref (P b)) dX4_weightOf_7 (ch_0 hk) rfl ?_
  refine v_getf F (pc := 10) fd_X4_208_3 (v := .ref (P (b + 2))) dX4_weightOf_10 (ch_lo hk hb) rfl ?_
  refine v_iload_n F (pc := 13) dX4_weightOf_13 rfl ?_
  refine v_iald F (pc := 14) (n := 8) (f := τ (b + 2)) (z := k) dX4_weightOf_14 (ch_lw hk hb) (by omega) (by decide) ?_
  have bd_2 := hWb2 k (by omega) (by omega)
  refine v_iret F (pc := 15) (z := (iI ((τ (b + 2)) k))) dX4_weightOf_15 rfl rfl (Nat.le_of_ble_eq_true rfl) (Nat.le_of_ble_eq_true rfl) ?_
  exact ⟨rfl, rfl, by omega, by omega⟩
-- X4_gap
set_option maxRecDepth 100000 in
set_option maxHeartbeats 8000000 in
theorem k_X4_gap (l : Launch) (g : gT) {P K : Nat → Nat} {r : Nat → Int → Option Nat} {cp : Nat → Nat} {b b' : Nat} {τ : sT} (hk : cok P K cp) (hb : b = 5 ∨ b = 12) (hb2 : b' = 5 ∨ b' = 12) (hV : CV K r cp τ) (hW : Wb τ b) (hPC : PC r τ) (k : Int) (hkr : -2147483648 ≤ k ∧ k ≤ 2147483647) : CM l g yX4_gap cX4_gap 2 (some .int) ({ frames := 11, cells := 1, slots := 6, locals := 161 }) [.ref (P 0), .int (iI (k))] (cheap g P K r cp b b' τ) (fun v h1 => v = some (.int (iI (gp (cEm τ (b + 1) k) (τ 41 (ad r 2 k))))) ∧ h1 = cheap g P K r cp b b' τ ∧ 0 ≤ k ∧ k < τ 55 0) (fun E h1 => E = "java/lang/IndexOutOfBoundsException" ∧ h1 = cheap g P K r cp b b' τ ∧ ¬ (0 ≤ k ∧ k < τ 55 0)) := by
  refine CM.of (lo := [some (.ref (P 0)), some (.int (iI (k)))]) (by decide) (Nat.le_of_ble_eq_true rfl) (by simp [Value.category]) rfl ?_
  intro pX eX sX mX bX tX cX AX F htab hmn
  have F : Fx pX l sX mX ([.ref (P 0), .int (iI (k))] : List Value).toArray tX cX cX4_gap 2 (some .int) RX4 g AX := F
  have hM := hV.1
  have hR := hV.2.1
  have hL0 := hV.2.2.1
  have hL1 := hV.2.2.2.1
  have hL2 := hV.2.2.2.2.1
  have hS20 := hV.2.2.2.2.2.1
  have hS21 := hV.2.2.2.2.2.2.1
  have hS22 := hV.2.2.2.2.2.2.2.1
  have hS2 := hV.2.2.2.2.2.2.2.2.1
  have hn8 : 0 ≤ τ 55 0 ∧ τ 55 0 ≤ 8 := ⟨hL2.1, hL2.2.2.2.1⟩
  have hn60 : 0 ≤ τ 53 0 ∧ τ 53 0 ≤ 60 := ⟨hL0.1, hL0.2.2.2.1⟩
  have hWb1 := hW.1
  have hWb2 := hW.2.1
  have hWb3 := hW.2.2.1
  have hWb5 := hW.2.2.2.1
  have hWb6 := hW.2.2.2.2
  refine v_aload_n F (pc := 0) dX4_gap_0 rfl ?_
  refine v_iload_n F (pc := 1) dX4_gap_1 rfl ?_
  refine v_callV F (pc := 2) (As := [.int (iI (k))]) (rest := []) ci_X4_177 ct_X4_requireRack cs_X4_requireRack (k_X4_requireRack l g hk hb hb2 hV hW hPC k (by omega)) dX4_gap_2 (k0 := 7) rfl rfl (ch_0 hk) rfl rfl (Nat.le_of_ble_eq_true rfl) (Nat.le_of_ble_eq_true rfl) (Nat.le_of_ble_eq_true rfl) (Nat.le_of_ble_eq_true rfl) (Nat.le_of_ble_eq_true rfl) (fun v_ h_ hp_ => ?_) (fun E_ h_ hp_ => by obtain ⟨rfl, rfl, hc_⟩ := hp_; exact v_xout F.2.2.2.2.2.1 htab (Nat.le_of_ble_eq_true rfl) (Nat.le_of_ble_eq_true rfl) (⟨rfl, rfl, hc_⟩))
  obtain ⟨rfl, rfl, kq_10, kq_11⟩ := hp_
  have kq_1 : K (ad r 2 k) = 2 := (hL2.2.2.2.2 _ kq_10 kq_11).2
  have kq_1b := hR _ kq_1
  refine v_pop F (pc := 5) dX4_gap_5 rfl ?_
  refine v_aload_n F (pc := 6) dX4_gap_6 rfl ?_
  refine v_getf F (pc := 7) fd_X4_35_7 (v := .ref (P b)) dX4_gap_7 (ch_0 hk) rfl ?_
  refine v_iload_n F (pc := 10) dX4_gap_10 rfl ?_
  refine v_callVp F (pc := 11) (As := [.int (iI (k))]) (rest := []) ci_X4_217 ct_X0_widestGap cs_X0_widestGap (k_X0_widestGap l g hb hk (τ := τ) (K := K) (r := r) (cp := cp) (b := b) (b' := b') hV hW k (by omega)) dX4_gap_11 (k0 := 3) rfl rfl (ch_lo hk hb) rfl rfl (Nat.le_of_ble_eq_true rfl) (Nat.le_of_ble_eq_true rfl) (Nat.le_of_ble_eq_true rfl) (Nat.le_of_ble_eq_true rfl) (Nat.le_of_ble_eq_true rfl) ?_ (fun _ _ z => z.elim)
  refine v_iret F (pc := 14) (z := (iI (gp (cEm τ (b + 1) k) (τ 41 (ad r 2 k))))) dX4_gap_14 rfl rfl (Nat.le_of_ble_eq_true rfl) (Nat.le_of_ble_eq_true rfl) ?_
  exact ⟨rfl, rfl, by omega, by omega⟩
-- X4_heatOf
set_option maxRecDepth 100000 in
set_option maxHeartbeats 8000000 in
theorem k_X4_heatOf (l : Launch) (g : gT) {P K : Nat → Nat} {r : Nat → Int → Option Nat} {cp : Nat → Nat} {b b' : Nat} {τ : sT} (hk : cok P K cp) (hb : b = 5 ∨ b = 12) (hb2 : b' = 5 ∨ b' = 12) (hV : CV K r cp τ) (hW : Wb τ b) (hPC : PC r τ) (row : Int) (hrow : -2147483648 ≤ row ∧ row ≤ 2147483647) : CM l g yX4_heatOf cX4_heatOf 5 (some .int) ({ frames := 11, cells := 1, slots := 6, locals := 162 }) [.ref (P 0), .int (iI (row))] (cheap g P K r cp b b' τ) (fun v h1 => v = some (.int (iI (sm (cHt r τ row) (τ 53 0)))) ∧ h1 = cheap g P K r cp b b' τ ∧ 0 ≤ row ∧ row ≤ 3) (fun E h1 => E = "java/lang/IllegalArgumentException" ∧ h1 = cheap g P K r cp b b' τ ∧ ¬ (0 ≤ row ∧ row ≤ 3)) := by
  refine CM.of (lo := [some (.ref (P 0)), some (.int (iI (row))), none, none, none]) (by decide) (Nat.le_of_ble_eq_true rfl) (by simp [Value.category]) rfl ?_
  intro pX eX sX mX bX tX cX AX F htab hmn
  have F : Fx pX l sX mX ([.ref (P 0), .int (iI (row))] : List Value).toArray tX cX cX4_heatOf 5 (some .int) RX4 g AX := F
  have hM := hV.1
  have hR := hV.2.1
  have hL0 := hV.2.2.1
  have hL1 := hV.2.2.2.1
  have hL2 := hV.2.2.2.2.1
  have hS20 := hV.2.2.2.2.2.1
  have hS21 := hV.2.2.2.2.2.2.1
  have hS22 := hV.2.2.2.2.2.2.2.1
  have hS2 := hV.2.2.2.2.2.2.2.2.1
  have hn8 : 0 ≤ τ 55 0 ∧ τ 55 0 ≤ 8 := ⟨hL2.1, hL2.2.2.2.1⟩
  have hn60 : 0 ≤ τ 53 0 ∧ τ 53 0 ≤ 60 := ⟨hL0.1, hL0.2.2.2.1⟩
  have hWb1 := hW.1
  have hWb2 := hW.2.1
  have hWb3 := hW.2.2.1
  have hWb5 := hW.2.2.2.1
  have hWb6 := hW.2.2.2.2
  refine v_iload_n F (pc := 0) dX4_heatOf_0 rfl ?_
  refine v_iconst F (pc := 1) dX4_heatOf_1 ?_
  refine v_iconst F (pc := 2) dX4_heatOf_2 ?_
  refine v_callS F (pc := 3) (As := [.int (iI (row)), .int (iI (0)), .int (iI (3))]) (rest := []) ci_X4_46 ct_X4_requireRange (k_X4_requireRange l g row 0 3 (by omega) (by omega) (by omega)) dX4_heatOf_3 rfl rfl (Nat.le_of_ble_eq_true rfl) (Nat.le_of_ble_eq_true rfl) (Nat.le_of_ble_eq_true rfl) (Nat.le_of_ble_eq_true rfl) (Nat.le_of_ble_eq_true rfl) (fun v_ h_ hp_ => ?_) (fun E_ h_ hp_ => by obtain ⟨rfl, rfl, hc_⟩ := hp_; exact v_xout F.2.2.2.2.2.1 htab (Nat.le_of_ble_eq_true rfl) (Nat.le_of_ble_eq_true rfl) (⟨rfl, rfl, fun z_ => hc_ ⟨by omega, by omega⟩⟩))
  obtain ⟨rfl, rfl, rr_1a, rr_1b⟩ := hp_
  refine v_iconst F (pc := 6) dX4_heatOf_6 ?_
  refine v_istore_n F (pc := 7) (lo' := [some (.ref (P 0)), some (.int (iI (row))), some (.int (iI (0))), none, none]) dX4_heatOf_7 (Nat.le_of_ble_eq_true rfl) rfl ?_
  refine v_iconst F (pc := 8) dX4_heatOf_8 ?_
  refine v_istore_n F (pc := 9) (lo' := [some (.ref (P 0)), some (.int (iI (row))), some (.int (iI (0))), some (.int (iI (0))), none]) dX4_heatOf_9 (Nat.le_of_ble_eq_true rfl) rfl ?_
  have LP10 : ∀ (N_ : Nat) (k : Int), (0 ≤ k) → (k ≤ (τ 53 0)) → ((τ 53 0) - k).toNat < N_ → VE pX l eX ({ frames := 11, cells := 1, slots := 6, locals := 162 }) sX mX ([.ref (P 0), .int (iI (row))] : List Value).toArray bX tX cX 5 g AX (cheap g P K r cp b b' τ) 1 6 10 [some (.ref (P 0)), some (.int (iI (row))), some (.int (iI (sm (cHt r τ row) k))), some (.int (iI (k))), none] [] (fun v h1 => v = some (.int (iI (sm (cHt r τ row) (τ 53 0)))) ∧ h1 = cheap g P K r cp b b' τ ∧ 0 ≤ row ∧ row ≤ 3) (fun E h1 => E = "java/lang/IllegalArgumentException" ∧ h1 = cheap g P K r cp b b' τ ∧ ¬ (0 ≤ row ∧ row ≤ 3)) 1 6 := by
    intro N_
    induction N_ with
    | zero => intro k _ _ hm_; exact absurd hm_ (Nat.not_lt_zero _)
    | succ N_ ih =>
      intro k hk0 hk1 hm_
      refine v_iload_n F (pc := 10) dX4_heatOf_10 rfl ?_
      refine v_aload_n F (pc := 11) dX4_heatOf_11 rfl ?_
      refine v_getf F (pc := 12) fd_X4_23_7 (v := .ref (P 3)) dX4_heatOf_12 (ch_0 hk) rfl ?_
      refine v_callVp F (pc := 15) (As := []) (rest := [.int (iI (k))]) ci_X4_53 ct_Jx4a65c_size_8abf5 cs_Jx4a65c_size_8abf5 (k_Jx4a65c_size_8abf5 l g (n := τ 53 0) (ch_3 hk)) dX4_heatOf_15 (k0 := 2) rfl rfl (ch_3 hk) rfl rfl (Nat.le_of_ble_eq_true rfl) (Nat.le_of_ble_eq_true rfl) (Nat.le_of_ble_eq_true rfl) (Nat.le_of_ble_eq_true rfl) (Nat.le_of_ble_eq_true rfl) ?_ (fun _ _ z => z.elim)
      refine v_icmp_ge F (pc := 18) (a := k) (b := τ 53 0) 67 dX4_heatOf_18 (by decide) (by omega) (by omega) (fun c_2 => ?_) (fun c_2 => ?_)
      · refine v_iload_n F (pc := 67) dX4_heatOf_67 rfl ?_
        refine v_iret F (pc := 68) (z := (iI (sm (cHt r τ row) k))) dX4_heatOf_68 rfl rfl (Nat.le_of_ble_eq_true rfl) (Nat.le_of_ble_eq_true rfl) ?_
        exact ⟨by rw [show k = τ 53 0 by omega], rfl, by omega, by omega⟩
      · refine v_aload_n F (pc := 21) dX4_heatOf_21 rfl ?_
        refine v_getf F (pc := 22) fd_X4_23_7 (v := .ref (P 3)) dX4_heatOf_22 (ch_0 hk) rfl ?_
        refine v_iload_n F (pc := 25) dX4_heatOf_25 rfl ?_
        refine v_callVp F (pc := 26) (As := [.int (iI (k))]) (rest := []) ci_X4_101 ct_Jx4a65c_get_915e3 cs_Jx4a65c_get_915e3 (kl_get0 l g (τ := τ) (r := r) (cp := cp) hk hL0 (k := k) (by omega) (show (k : Int) < τ 53 0 by omega)) dX4_heatOf_26 (k0 := 2) rfl rfl (ch_3 hk) rfl rfl (Nat.le_of_ble_eq_true rfl) (Nat.le_of_ble_eq_true rfl) (Nat.le_of_ble_eq_true rfl) (Nat.le_of_ble_eq_true rfl) (Nat.le_of_ble_eq_true rfl) ?_ (fun _ _ z => z.elim)
        have kq_3 : K (ad r 0 k) = 1 := (hL0.2.2.2.2 k (by omega) (show (k : Int) < τ 53 0 by omega)).2
        have kq_3b := hM _ kq_3
        refine v_castS F (pc := 29) (ci := 4) rfl tk_X4_105 dX4_heatOf_29 (ch_m hk kq_3) ?_
        refine v_astore F (pc := 32) (lo' := [some (.ref (P 0)), some (.int (iI (row))), some (.int (iI (sm (cHt r τ row) k))), some (.int (iI (k))), some (.ref (ad r 0 k))]) dX4_heatOf_32 (Nat.le_of_ble_eq_true rfl) rfl ?_
        refine v_aload_n F (pc := 34) dX4_heatOf_34 rfl ?_
        refine v_aload F (pc := 35) dX4_heatOf_35 rfl ?_
        have hpcj := hPC k hk0 (by omega)
        refine v_callVp F (pc := 37) (As := [.ref (ad r 0 k)]) (rest := []) ci_X4_211 ct_X4_rowOfMachine cs_X4_rowOfMachine (k_X4_rowOfMachine l g hk hb hb2 hV hW hPC kq_3 kq_3b (by omega)) dX4_heatOf_37 (k0 := 7) rfl rfl (ch_0 hk) rfl rfl (Nat.le_of_ble_eq_true rfl) (Nat.le_of_ble_eq_true rfl) (Nat.le_of_ble_eq_true rfl) (Nat.le_of_ble_eq_true rfl) (Nat.le_of_ble_eq_true rfl) ?_ (fun _ _ z => z.elim)
        have rk_4 := hR _ (hL2.2.2.2.2 (τ 35 (ad r 0 k) / 20) (by omega) (by omega)).2
        refine v_iload_n F (pc := 40) dX4_heatOf_40 rfl ?_
        refine v_icmp_ne F (pc := 41) (a := τ 40 (ad r 2 (τ 35 (ad r 0 k) / 20))) (b := row) 61 dX4_heatOf_41 (by decide) (by omega) (by omega) (fun c_5 => ?_) (fun c_5 => ?_)
        · have hq9 : ¬ (τ 40 (ad r 2 (τ 35 (ad r 0 k) / 20)) = row ∧ cDk τ (ad r 0 k) = false) := fun z_ => c_5 z_.1
          refine v_iinc F (pc := 61) (lo' := [some (.ref (P 0)), some (.int (iI (row))), some (.int (iI (sm (cHt r τ row) k))), some (.int (iI (k + 1))), some (.ref (ad r 0 k))]) dX4_heatOf_61 rfl (Nat.le_of_ble_eq_true rfl) rfl ?_
          refine v_goto F (pc := 64) 10 dX4_heatOf_64 (by decide) ?_
          have e_0 : sm (cHt r τ row) (k + 1) = sm (cHt r τ row) k := by rw [sm_s _ hk0, show cHt r τ row k = 0 from if_neg hq9]; omega
          have ih2 := ih (k + 1) (by omega) (by omega)  (by omega)
          rw [e_0] at ih2
          exact V.fg (ih2) ⟨rfl, ⟨rfl, ⟨rfl, ⟨rfl, trivial⟩⟩⟩⟩
        · have hq8 := c_5
          refine v_aload_n F (pc := 44) dX4_heatOf_44 rfl ?_
          refine v_aload F (pc := 45) dX4_heatOf_45 rfl ?_
          refine v_callVp F (pc := 47) (As := [.ref (ad r 0 k)]) (rest := []) ci_X4_107 ct_X4_hasNoFeed cs_X4_hasNoFeed (k_X4_hasNoFeed l g hk hb hb2 hV hW hPC kq_3 kq_3b) dX4_heatOf_47 (k0 := 7) rfl rfl (ch_0 hk) rfl rfl (Nat.le_of_ble_eq_true rfl) (Nat.le_of_ble_eq_true rfl) (Nat.le_of_ble_eq_true rfl) (Nat.le_of_ble_eq_true rfl) (Nat.le_of_ble_eq_true rfl) ?_ (fun _ _ z => z.elim)
          refine v_if_neB F (pc := 50) (b := (cDk τ (ad r 0 k))) 61 dX4_heatOf_50 (by decide) (fun c_6 => ?_) (fun c_6 => ?_)
          · have hq9 : ¬ (τ 40 (ad r 2 (τ 35 (ad r 0 k) / 20)) = row ∧ cDk τ (ad r 0 k) = false) := fun z_ => by rw [z_.2] at c_6; cases c_6
            refine v_iinc F (pc := 61) (lo' := [some (.ref (P 0)), some (.int (iI (row))), some (.int (iI (sm (cHt r τ row) k))), some (.int (iI (k + 1))), some (.ref (ad r 0 k))]) dX4_heatOf_61 rfl (Nat.le_of_ble_eq_true rfl) rfl ?_
            refine v_goto F (pc := 64) 10 dX4_heatOf_64 (by decide) ?_
            have e_0 : sm (cHt r τ row) (k + 1) = sm (cHt r τ row) k := by rw [sm_s _ hk0, show cHt r τ row k = 0 from if_neg hq9]; omega
            have ih2 := ih (k + 1) (by omega) (by omega)  (by omega)
            rw [e_0] at ih2
            exact V.fg (ih2) ⟨rfl, ⟨rfl, ⟨rfl, ⟨rfl, trivial⟩⟩⟩⟩
          · have hq9 : τ 40 (ad r 2 (τ 35 (ad r 0 k) / 20)) = row ∧ cDk τ (ad r 0 k) = false := ⟨hq8, c_6⟩
            refine v_iload_n F (pc := 53) dX4_heatOf_53 rfl ?_
            refine v_aload F (pc := 54) dX4_heatOf_54 rfl ?_
            refine v_getf F (pc := 56) fd_X4_214_4 (v := .int (iI (τ 32 (ad r 0 k)))) dX4_heatOf_56 (ch_m hk kq_3) rfl ?_
            refine v_iadd F (pc := 59) (a := sm (cHt r τ row) k) (b := τ 32 (ad r 0 k)) dX4_heatOf_59 ?_
            refine v_istore_n F (pc := 60) (lo' := [some (.ref (P 0)), some (.int (iI (row))), some (.int (iI ((sm (cHt r τ row) k) + (τ 32 (ad r 0 k))))), some (.int (iI (k))), some (.ref (ad r 0 k))]) dX4_heatOf_60 (Nat.le_of_ble_eq_true rfl) rfl ?_
            refine v_iinc F (pc := 61) (lo' := [some (.ref (P 0)), some (.int (iI (row))), some (.int (iI ((sm (cHt r τ row) k) + (τ 32 (ad r 0 k))))), some (.int (iI (k + 1))), some (.ref (ad r 0 k))]) dX4_heatOf_61 rfl (Nat.le_of_ble_eq_true rfl) rfl ?_
            refine v_goto F (pc := 64) 10 dX4_heatOf_64 (by decide) ?_
            have e_0 : sm (cHt r τ row) (k + 1) = (sm (cHt r τ row) k) + (τ 32 (ad r 0 k)) := by rw [sm_s _ hk0]; exact congrArg (fun z => sm (cHt r τ row) k + z) (if_pos hq9)
            have ih2 := ih (k + 1) (by omega) (by omega)  (by omega)
            rw [e_0] at ih2
            exact V.fg (ih2) ⟨rfl, ⟨rfl, ⟨rfl, ⟨rfl, trivial⟩⟩⟩⟩
  exact V.fg (LP10 _ 0 (Int.le_refl _) (by omega)  (Nat.lt_succ_self _)) ⟨rfl, ⟨rfl, ⟨rfl, ⟨rfl, trivial⟩⟩⟩⟩
-- X4_setRow
set_option maxRecDepth 100000 in
set_option maxHeartbeats 8000000 in
theorem k_X4_setRow (l : Launch) (g : gT) {P K : Nat → Nat} {r : Nat → Int → Option Nat} {cp : Nat → Nat} {b b' : Nat} {τ : sT} (hk : cok P K cp) (hb : b = 5 ∨ b = 12) (hb2 : b' = 5 ∨ b' = 12) (hV : CV K r cp τ) (hW : Wb τ b) (hPC : PC r τ) (row x y : Int) (hrow : -2147483648 ≤ row ∧ row ≤ 2147483647) (hx : -2147483648 ≤ x ∧ x ≤ 2147483647) (hy : -2147483648 ≤ y ∧ y ≤ 2147483647) : CM l g yX4_setRow cX4_setRow 4 none ({ frames := 11, cells := 4, slots := 24, locals := 162 }) [.ref (P 0), .int (iI (row)), .int (iI (x)), .int (iI (y))] (cheap g P K r cp b b' τ) (fun v h1 => v = none ∧ h1 = cheap g P K r cp b b' (su (su τ 20 row x) 21 row y) ∧ ((0 ≤ row ∧ row ≤ 3) ∧ (0 ≤ x ∧ x ≤ 10000) ∧ (0 ≤ y ∧ y ≤ 10000)) ∧ ¬ (x < cSum r τ (b + 3) row ∨ y < cSum r τ (b + 2) row)) (fun E h1 => h1 = cheap g P K r cp b b' τ ∧ ((E = "java/lang/IllegalArgumentException" ∧ ¬ ((0 ≤ row ∧ row ≤ 3) ∧ (0 ≤ x ∧ x ≤ 10000) ∧ (0 ≤ y ∧ y ≤ 10000))) ∨ (E = "java/lang/IllegalStateException" ∧ ((0 ≤ row ∧ row ≤ 3) ∧ (0 ≤ x ∧ x ≤ 10000) ∧ (0 ≤ y ∧ y ≤ 10000)) ∧ (x < cSum r τ (b + 3) row ∨ y < cSum r τ (b + 2) row)))) := by
  refine CM.of (lo := [some (.ref (P 0)), some (.int (iI (row))), some (.int (iI (x))), some (.int (iI (y)))]) (by decide) (Nat.le_of_ble_eq_true rfl) (by simp [Value.category]) rfl ?_
  intro pX eX sX mX bX tX cX AX F htab hmn
  have F : Fx pX l sX mX ([.ref (P 0), .int (iI (row)), .int (iI (x)), .int (iI (y))] : List Value).toArray tX cX cX4_setRow 4 none RX4 g AX := F
  have hM := hV.1
  have hR := hV.2.1
  have hL0 := hV.2.2.1
  have hL1 := hV.2.2.2.1
  have hL2 := hV.2.2.2.2.1
  have hS20 := hV.2.2.2.2.2.1
  have hS21 := hV.2.2.2.2.2.2.1
  have hS22 := hV.2.2.2.2.2.2.2.1
  have hS2 := hV.2.2.2.2.2.2.2.2.1
  have hn8 : 0 ≤ τ 55 0 ∧ τ 55 0 ≤ 8 := ⟨hL2.1, hL2.2.2.2.1⟩
  have hn60 : 0 ≤ τ 53 0 ∧ τ 53 0 ≤ 60 := ⟨hL0.1, hL0.2.2.2.1⟩
  have hWb1 := hW.1
  have hWb2 := hW.2.1
  have hWb3 := hW.2.2.1
  have hWb5 := hW.2.2.2.1
  have hWb6 := hW.2.2.2.2
  refine v_iload_n F (pc := 0) dX4_setRow_0 rfl ?_
  refine v_iconst F (pc := 1) dX4_setRow_1 ?_
  refine v_iconst F (pc := 2) dX4_setRow_2 ?_
  refine v_callS F (pc := 3) (As := [.int (iI (row)), .int (iI (0)), .int (iI (3))]) (rest := []) ci_X4_46 ct_X4_requireRange (k_X4_requireRange l g row 0 3 (by omega) (by omega) (by omega)) dX4_setRow_3 rfl rfl (Nat.le_of_ble_eq_true rfl) (Nat.le_of_ble_eq_true rfl) (Nat.le_of_ble_eq_true rfl) (Nat.le_of_ble_eq_true rfl) (Nat.le_of_ble_eq_true rfl) (fun v_ h_ hp_ => ?_) (fun E_ h_ hp_ => by obtain ⟨rfl, rfl, hc_⟩ := hp_; exact v_xout F.2.2.2.2.2.1 htab (Nat.le_of_ble_eq_true rfl) (Nat.le_of_ble_eq_true rfl) (⟨rfl, Or.inl ⟨rfl, fun z_ => hc_ (by omega)⟩⟩))
  obtain ⟨rfl, rfl, rr_1a, rr_1b⟩ := hp_
  refine v_iload_n F (pc := 6) dX4_setRow_6 rfl ?_
  refine v_iconst F (pc := 7) dX4_setRow_7 ?_
  refine v_sipush F (pc := 8) dX4_setRow_8 (by decide) ?_
  refine v_callS F (pc := 11) (As := [.int (iI (x)), .int (iI (0)), .int (iI (10000))]) (rest := []) ci_X4_46 ct_X4_requireRange (k_X4_requireRange l g x 0 10000 (by omega) (by omega) (by omega)) dX4_setRow_11 rfl rfl (Nat.le_of_ble_eq_true rfl) (Nat.le_of_ble_eq_true rfl) (Nat.le_of_ble_eq_true rfl) (Nat.le_of_ble_eq_true rfl) (Nat.le_of_ble_eq_true rfl) (fun v_ h_ hp_ => ?_) (fun E_ h_ hp_ => by obtain ⟨rfl, rfl, hc_⟩ := hp_; exact v_xout F.2.2.2.2.2.1 htab (Nat.le_of_ble_eq_true rfl) (Nat.le_of_ble_eq_true rfl) (⟨rfl, Or.inl ⟨rfl, fun z_ => hc_ (by omega)⟩⟩))
  obtain ⟨rfl, rfl, rr_2a, rr_2b⟩ := hp_
  refine v_iload_n F (pc := 14) dX4_setRow_14 rfl ?_
  refine v_iconst F (pc := 15) dX4_setRow_15 ?_
  refine v_sipush F (pc := 16) dX4_setRow_16 (by decide) ?_
  refine v_callS F (pc := 19) (As := [.int (iI (y)), .int (iI (0)), .int (iI (10000))]) (rest := []) ci_X4_46 ct_X4_requireRange (k_X4_requireRange l g y 0 10000 (by omega) (by omega) (by omega)) dX4_setRow_19 rfl rfl (Nat.le_of_ble_eq_true rfl) (Nat.le_of_ble_eq_true rfl) (Nat.le_of_ble_eq_true rfl) (Nat.le_of_ble_eq_true rfl) (Nat.le_of_ble_eq_true rfl) (fun v_ h_ hp_ => ?_) (fun E_ h_ hp_ => by obtain ⟨rfl, rfl, hc_⟩ := hp_; exact v_xout F.2.2.2.2.2.1 htab (Nat.le_of_ble_eq_true rfl) (Nat.le_of_ble_eq_true rfl) (⟨rfl, Or.inl ⟨rfl, fun z_ => hc_ (by omega)⟩⟩))
  obtain ⟨rfl, rfl, rr_3a, rr_3b⟩ := hp_
  refine v_aload_n F (pc := 22) dX4_setRow_22 rfl ?_
  refine v_getf F (pc := 23) fd_X4_35_7 (v := .ref (P b)) dX4_setRow_23 (ch_0 hk) rfl ?_
  refine v_iload_n F (pc := 26) dX4_setRow_26 rfl ?_
  refine v_callVp F (pc := 27) (As := [.int (iI (row))]) (rest := []) ci_X4_73 ct_X0_heatInRow cs_X0_heatInRow (k_X0_heatInRow l g hb hk (τ := τ) (K := K) (r := r) (cp := cp) (b := b) (b' := b') hV row (by omega)) dX4_setRow_27 (k0 := 3) rfl rfl (ch_lo hk hb) rfl rfl (Nat.le_of_ble_eq_true rfl) (Nat.le_of_ble_eq_true rfl) (Nat.le_of_ble_eq_true rfl) (Nat.le_of_ble_eq_true rfl) (Nat.le_of_ble_eq_true rfl) ?_ (fun _ _ z => z.elim)
  have rg_4 : -8000000 ≤ cSum r τ (b + 3) row ∧ cSum r τ (b + 3) row ≤ 8000000 := cSR_rng hn8.1 hn8.2 hWb3
  refine v_iload_n F (pc := 30) dX4_setRow_30 rfl ?_
  refine v_icmp_gt F (pc := 31) (a := cSum r τ (b + 3) row) (b := x) 46 dX4_setRow_31 (by decide) (by omega) (by omega) (fun c_5 => ?_) (fun c_5 => ?_)
  · refine v_throw F (pc := 46) (text := "the row's machines are above that") fit_IllegalStateException th_fit tk_X4_57 ti_IllegalStateException (by decide) th_X4_57_61 tg_X4_57_61 htab dX4_setRow_46 dX4_setRow_49 dX4_setRow_50 dX4_setRow_52 dX4_setRow_55 (Nat.le_of_ble_eq_true rfl) (Nat.le_of_ble_eq_true rfl) (Nat.le_of_ble_eq_true rfl) (Nat.le_of_ble_eq_true rfl) (Nat.le_of_ble_eq_true rfl) (Nat.le_of_ble_eq_true rfl) ?_
    exact ⟨rfl, Or.inr ⟨rfl, by omega, by omega⟩⟩
  · refine v_aload_n F (pc := 34) dX4_setRow_34 rfl ?_
    refine v_getf F (pc := 35) fd_X4_35_7 (v := .ref (P b)) dX4_setRow_35 (ch_0 hk) rfl ?_
    refine v_iload_n F (pc := 38) dX4_setRow_38 rfl ?_
    refine v_callVp F (pc := 39) (As := [.int (iI (row))]) (rest := []) ci_X4_77 ct_X0_weightInRow cs_X0_weightInRow (k_X0_weightInRow l g hb hk (τ := τ) (K := K) (r := r) (cp := cp) (b := b) (b' := b') hV row (by omega)) dX4_setRow_39 (k0 := 3) rfl rfl (ch_lo hk hb) rfl rfl (Nat.le_of_ble_eq_true rfl) (Nat.le_of_ble_eq_true rfl) (Nat.le_of_ble_eq_true rfl) (Nat.le_of_ble_eq_true rfl) (Nat.le_of_ble_eq_true rfl) ?_ (fun _ _ z => z.elim)
    have rg_6 : -8000000 ≤ cSum r τ (b + 2) row ∧ cSum r τ (b + 2) row ≤ 8000000 := cSR_rng hn8.1 hn8.2 hWb2
    refine v_iload_n F (pc := 42) dX4_setRow_42 rfl ?_
    refine v_icmp_le F (pc := 43) (a := cSum r τ (b + 2) row) (b := y) 56 dX4_setRow_43 (by decide) (by omega) (by omega) (fun c_7 => ?_) (fun c_7 => ?_)
    · refine v_aload_n F (pc := 56) dX4_setRow_56 rfl ?_
      refine v_getf F (pc := 57) fd_X4_12_7 (v := .ref (P 1)) dX4_setRow_57 (ch_0 hk) rfl ?_
      refine v_getf F (pc := 60) fd_X4_82_6 (v := .ref (P 20)) dX4_setRow_60 (ch_1 hk) rfl ?_
      refine v_iload_n F (pc := 63) dX4_setRow_63 rfl ?_
      refine v_iload_n F (pc := 64) dX4_setRow_64 rfl ?_
      refine v_iast F (pc := 65) (n := 4) (f := τ 20) (z := row) (x := x) dX4_setRow_65 (ch_20 hk) (by omega) (by decide)  (h' := cheap g P K r cp b b' (su τ 20 row x)) (cu_20 hk _) ?_
      refine v_aload_n F (pc := 66) dX4_setRow_66 rfl ?_
      refine v_getf F (pc := 67) fd_X4_12_7 (v := .ref (P 1)) dX4_setRow_67 (ch_0 hk) rfl ?_
      refine v_getf F (pc := 70) fd_X4_86_6 (v := .ref (P 21)) dX4_setRow_70 (ch_1 hk) rfl ?_
      refine v_iload_n F (pc := 73) dX4_setRow_73 rfl ?_
      refine v_iload_n F (pc := 74) dX4_setRow_74 rfl ?_
      refine v_iast F (pc := 75) (n := 4) (f := τ 21) (z := row) (x := y) dX4_setRow_75 (ch_21 hk) (by omega) (by decide)  (h' := cheap g P K r cp b b' (su (su τ 20 row x) 21 row y)) (cu_21 hk _) ?_
      refine v_vret F (pc := 76) dX4_setRow_76 rfl (Nat.le_of_ble_eq_true rfl) (Nat.le_of_ble_eq_true rfl) ?_
      exact ⟨rfl, rfl, by omega, by omega⟩
    · refine v_throw F (pc := 46) (text := "the row's machines are above that") fit_IllegalStateException th_fit tk_X4_57 ti_IllegalStateException (by decide) th_X4_57_61 tg_X4_57_61 htab dX4_setRow_46 dX4_setRow_49 dX4_setRow_50 dX4_setRow_52 dX4_setRow_55 (Nat.le_of_ble_eq_true rfl) (Nat.le_of_ble_eq_true rfl) (Nat.le_of_ble_eq_true rfl) (Nat.le_of_ble_eq_true rfl) (Nat.le_of_ble_eq_true rfl) (Nat.le_of_ble_eq_true rfl) ?_
      exact ⟨rfl, Or.inr ⟨rfl, by omega, by omega⟩⟩
-- X4_setFeed
set_option maxRecDepth 100000 in
set_option maxHeartbeats 8000000 in
theorem k_X4_setFeed (l : Launch) (g : gT) {P K : Nat → Nat} {r : Nat → Int → Option Nat} {cp : Nat → Nat} {b b' : Nat} {τ : sT} (hk : cok P K cp) (hb : b = 5 ∨ b = 12) (hb2 : b' = 5 ∨ b' = 12) (hV : CV K r cp τ) (hW : Wb τ b) (hPC : PC r τ) (f : Int) (hf : -2147483648 ≤ f ∧ f ≤ 2147483647) (x : Int) (hx : -2147483648 ≤ x ∧ x ≤ 2147483647) : CM l g yX4_setFeed cX4_setFeed 4 (some .int) ({ frames := 12, cells := 3, slots := 18, locals := 182 }) [.ref (P 0), .int (iI (f)), .int (iI (x))] (cheap g P K r cp b b' τ) (fun v h1 => v = some (.int (iI (τ 22 f))) ∧ h1 = cheap g P K r cp b b' (su τ 22 f x) ∧ ((0 ≤ f ∧ f ≤ 1) ∧ (0 ≤ x ∧ x ≤ 20000)) ∧ ¬ x < cAll τ (b + 5 + f.toNat)) (fun E h1 => h1 = cheap g P K r cp b b' τ ∧ ((E = "java/lang/IllegalArgumentException" ∧ ¬ ((0 ≤ f ∧ f ≤ 1) ∧ (0 ≤ x ∧ x ≤ 20000))) ∨ (E = "java/lang/IllegalStateException" ∧ ((0 ≤ f ∧ f ≤ 1) ∧ (0 ≤ x ∧ x ≤ 20000)) ∧ x < cAll τ (b + 5 + f.toNat)))) := by
  refine CM.of (lo := [some (.ref (P 0)), some (.int (iI (f))), some (.int (iI (x))), none]) (by decide) (Nat.le_of_ble_eq_true rfl) (by simp [Value.category]) rfl ?_
  intro pX eX sX mX bX tX cX AX F htab hmn
  have F : Fx pX l sX mX ([.ref (P 0), .int (iI (f)), .int (iI (x))] : List Value).toArray tX cX cX4_setFeed 4 (some .int) RX4 g AX := F
  have hM := hV.1
  have hR := hV.2.1
  have hL0 := hV.2.2.1
  have hL1 := hV.2.2.2.1
  have hL2 := hV.2.2.2.2.1
  have hS20 := hV.2.2.2.2.2.1
  have hS21 := hV.2.2.2.2.2.2.1
  have hS22 := hV.2.2.2.2.2.2.2.1
  have hS2 := hV.2.2.2.2.2.2.2.2.1
  have hn8 : 0 ≤ τ 55 0 ∧ τ 55 0 ≤ 8 := ⟨hL2.1, hL2.2.2.2.1⟩
  have hn60 : 0 ≤ τ 53 0 ∧ τ 53 0 ≤ 60 := ⟨hL0.1, hL0.2.2.2.1⟩
  have hWb1 := hW.1
  have hWb2 := hW.2.1
  have hWb3 := hW.2.2.1
  have hWb5 := hW.2.2.2.1
  have hWb6 := hW.2.2.2.2
  refine v_iload_n F (pc := 0) dX4_setFeed_0 rfl ?_
  refine v_callS F (pc := 1) (As := [.int (iI (f))]) (rest := []) ci_X4_89 ct_X4_requireFeed (k_X4_requireFeed l g f (by omega)) dX4_setFeed_1 rfl rfl (Nat.le_of_ble_eq_true rfl) (Nat.le_of_ble_eq_true rfl) (Nat.le_of_ble_eq_true rfl) (Nat.le_of_ble_eq_true rfl) (Nat.le_of_ble_eq_true rfl) (fun v_ h_ hp_ => ?_) (fun E_ h_ hp_ => by obtain ⟨rfl, rfl, hc_⟩ := hp_; exact v_xout F.2.2.2.2.2.1 htab (Nat.le_of_ble_eq_true rfl) (Nat.le_of_ble_eq_true rfl) (⟨rfl, Or.inl ⟨rfl, fun z_ => hc_ (by omega)⟩⟩))
  obtain ⟨rfl, rfl, rr_1a, rr_1b⟩ := hp_
  refine v_iload_n F (pc := 4) dX4_setFeed_4 rfl ?_
  refine v_iconst F (pc := 5) dX4_setFeed_5 ?_
  refine v_sipush F (pc := 6) dX4_setFeed_6 (by decide) ?_
  refine v_callS F (pc := 9) (As := [.int (iI (x)), .int (iI (0)), .int (iI (20000))]) (rest := []) ci_X4_46 ct_X4_requireRange (k_X4_requireRange l g x 0 20000 (by omega) (by omega) (by omega)) dX4_setFeed_9 rfl rfl (Nat.le_of_ble_eq_true rfl) (Nat.le_of_ble_eq_true rfl) (Nat.le_of_ble_eq_true rfl) (Nat.le_of_ble_eq_true rfl) (Nat.le_of_ble_eq_true rfl) (fun v_ h_ hp_ => ?_) (fun E_ h_ hp_ => by obtain ⟨rfl, rfl, hc_⟩ := hp_; exact v_xout F.2.2.2.2.2.1 htab (Nat.le_of_ble_eq_true rfl) (Nat.le_of_ble_eq_true rfl) (⟨rfl, Or.inl ⟨rfl, fun z_ => hc_ (by omega)⟩⟩))
  obtain ⟨rfl, rfl, rr_2a, rr_2b⟩ := hp_
  have hWf : ∀ z : Int, 0 ≤ z → z < 8 → -1000000 ≤ τ (b + 5 + f.toNat) z ∧ τ (b + 5 + f.toNat) z ≤ 1000000 := by rcases (show f = 0 ∨ f = 1 by omega) with rfl | rfl; exact hWb5; exact hWb6
  refine v_aload_n F (pc := 12) dX4_setFeed_12 rfl ?_
  refine v_getf F (pc := 13) fd_X4_35_7 (v := .ref (P b)) dX4_setFeed_13 (ch_0 hk) rfl ?_
  refine v_iload_n F (pc := 16) dX4_setFeed_16 rfl ?_
  refine v_callVp F (pc := 17) (As := [.int (iI (f))]) (rest := []) ci_X4_93 ct_X0_worstOnFeed cs_X0_worstOnFeed (k_X0_worstOnFeed l g hb hk (τ := τ) (K := K) (r := r) (cp := cp) (b := b) (b' := b') hV f (by omega)) dX4_setFeed_17 (k0 := 3) rfl rfl (ch_lo hk hb) rfl rfl (Nat.le_of_ble_eq_true rfl) (Nat.le_of_ble_eq_true rfl) (Nat.le_of_ble_eq_true rfl) (Nat.le_of_ble_eq_true rfl) (Nat.le_of_ble_eq_true rfl) ?_ (fun _ _ z => z.elim)
  have rg_3 : -8000000 ≤ cAll τ (b + 5 + f.toNat) ∧ cAll τ (b + 5 + f.toNat) ≤ 8000000 := cAll_rng hn8.1 hn8.2 hWf
  refine v_iload_n F (pc := 20) dX4_setFeed_20 rfl ?_
  refine v_icmp_le F (pc := 21) (a := cAll τ (b + 5 + f.toNat)) (b := x) 34 dX4_setFeed_21 (by decide) (by omega) (by omega) (fun c_4 => ?_) (fun c_4 => ?_)
  · refine v_aload_n F (pc := 34) dX4_setFeed_34 rfl ?_
    refine v_getf F (pc := 35) fd_X4_12_7 (v := .ref (P 1)) dX4_setFeed_35 (ch_0 hk) rfl ?_
    refine v_getf F (pc := 38) fd_X4_98_6 (v := .ref (P 22)) dX4_setFeed_38 (ch_1 hk) rfl ?_
    refine v_iload_n F (pc := 41) dX4_setFeed_41 rfl ?_
    refine v_iald F (pc := 42) (n := 2) (f := τ 22) (z := f) dX4_setFeed_42 (ch_22 hk) (by omega) (by decide) ?_
    have bd_5 := hS22 f (by omega) (by omega)
    refine v_istore_n F (pc := 43) (lo' := [some (.ref (P 0)), some (.int (iI (f))), some (.int (iI (x))), some (.int (iI ((τ 22) f)))]) dX4_setFeed_43 (Nat.le_of_ble_eq_true rfl) rfl ?_
    refine v_aload_n F (pc := 44) dX4_setFeed_44 rfl ?_
    refine v_getf F (pc := 45) fd_X4_12_7 (v := .ref (P 1)) dX4_setFeed_45 (ch_0 hk) rfl ?_
    refine v_getf F (pc := 48) fd_X4_98_6 (v := .ref (P 22)) dX4_setFeed_48 (ch_1 hk) rfl ?_
    refine v_iload_n F (pc := 51) dX4_setFeed_51 rfl ?_
    refine v_iload_n F (pc := 52) dX4_setFeed_52 rfl ?_
    refine v_iast F (pc := 53) (n := 2) (f := τ 22) (z := f) (x := x) dX4_setFeed_53 (ch_22 hk) (by omega) (by decide)  (h' := cheap g P K r cp b b' (su τ 22 f x)) (cu_22 hk _) ?_
    refine v_iload_n F (pc := 54) dX4_setFeed_54 rfl ?_
    refine v_iret F (pc := 55) (z := (iI ((τ 22) f))) dX4_setFeed_55 rfl rfl (Nat.le_of_ble_eq_true rfl) (Nat.le_of_ble_eq_true rfl) ?_
    exact ⟨rfl, rfl, by omega, by omega⟩
  · refine v_throw F (pc := 24) (text := "the worst on the feed is above that") fit_IllegalStateException th_fit tk_X4_57 ti_IllegalStateException (by decide) th_X4_57_61 tg_X4_57_61 htab dX4_setFeed_24 dX4_setFeed_27 dX4_setFeed_28 dX4_setFeed_30 dX4_setFeed_33 (Nat.le_of_ble_eq_true rfl) (Nat.le_of_ble_eq_true rfl) (Nat.le_of_ble_eq_true rfl) (Nat.le_of_ble_eq_true rfl) (Nat.le_of_ble_eq_true rfl) (Nat.le_of_ble_eq_true rfl) ?_
    exact ⟨rfl, Or.inr ⟨rfl, by omega, by omega⟩⟩
-- X4_hasFailed
set_option maxRecDepth 100000 in
set_option maxHeartbeats 8000000 in
theorem k_X4_hasFailed (l : Launch) (g : gT) {P K : Nat → Nat} {r : Nat → Int → Option Nat} {cp : Nat → Nat} {b b' : Nat} {τ : sT} (hk : cok P K cp) (hb : b = 5 ∨ b = 12) (hb2 : b' = 5 ∨ b' = 12) (hV : CV K r cp τ) (hW : Wb τ b) (hPC : PC r τ) (f : Int) (hf : -2147483648 ≤ f ∧ f ≤ 2147483647) : CM l g yX4_hasFailed cX4_hasFailed 2 (some .boolean) ({ frames := 12, cells := 1, slots := 6, locals := 182 }) [.ref (P 0), .int (iI (f))] (cheap g P K r cp b b' τ) (fun v h1 => v = some (.int (iI (τ 2 f))) ∧ h1 = cheap g P K r cp b b' τ ∧ 0 ≤ f ∧ f ≤ 1) (fun E h1 => E = "java/lang/IllegalArgumentException" ∧ h1 = cheap g P K r cp b b' τ ∧ ¬ (0 ≤ f ∧ f ≤ 1)) := by
  refine CM.of (lo := [some (.ref (P 0)), some (.int (iI (f)))]) (by decide) (Nat.le_of_ble_eq_true rfl) (by simp [Value.category]) rfl ?_
  intro pX eX sX mX bX tX cX AX F htab hmn
  have F : Fx pX l sX mX ([.ref (P 0), .int (iI (f))] : List Value).toArray tX cX cX4_hasFailed 2 (some .boolean) RX4 g AX := F
  have hM := hV.1
  have hR := hV.2.1
  have hL0 := hV.2.2.1
  have hL1 := hV.2.2.2.1
  have hL2 := hV.2.2.2.2.1
  have hS20 := hV.2.2.2.2.2.1
  have hS21 := hV.2.2.2.2.2.2.1
  have hS22 := hV.2.2.2.2.2.2.2.1
  have hS2 := hV.2.2.2.2.2.2.2.2.1
  have hn8 : 0 ≤ τ 55 0 ∧ τ 55 0 ≤ 8 := ⟨hL2.1, hL2.2.2.2.1⟩
  have hn60 : 0 ≤ τ 53 0 ∧ τ 53 0 ≤ 60 := ⟨hL0.1, hL0.2.2.2.1⟩
  have hWb1 := hW.1
  have hWb2 := hW.2.1
  have hWb3 := hW.2.2.1
  have hWb5 := hW.2.2.2.1
  have hWb6 := hW.2.2.2.2
  refine v_iload_n F (pc := 0) dX4_hasFailed_0 rfl ?_
  refine v_callS F (pc := 1) (As := [.int (iI (f))]) (rest := []) ci_X4_89 ct_X4_requireFeed (k_X4_requireFeed l g f (by omega)) dX4_hasFailed_1 rfl rfl (Nat.le_of_ble_eq_true rfl) (Nat.le_of_ble_eq_true rfl) (Nat.le_of_ble_eq_true rfl) (Nat.le_of_ble_eq_true rfl) (Nat.le_of_ble_eq_true rfl) (fun v_ h_ hp_ => ?_) (fun E_ h_ hp_ => by obtain ⟨rfl, rfl, hc_⟩ := hp_; exact v_xout F.2.2.2.2.2.1 htab (Nat.le_of_ble_eq_true rfl) (Nat.le_of_ble_eq_true rfl) (⟨rfl, rfl, fun z_ => hc_ ⟨by omega, by omega⟩⟩))
  obtain ⟨rfl, rfl, rr_1a, rr_1b⟩ := hp_
  refine v_aload_n F (pc := 4) dX4_hasFailed_4 rfl ?_
  refine v_getf F (pc := 5) fd_X4_16_7 (v := .ref (P 2)) dX4_hasFailed_5 (ch_0 hk) rfl ?_
  refine v_iload_n F (pc := 8) dX4_hasFailed_8 rfl ?_
  refine v_zald F (pc := 9) (n := 2) (f := τ 2) (z := f) dX4_hasFailed_9 (ch_2 hk) (by omega) (by decide) ?_
  have bd_2 := hS2 f (by omega) (by omega)
  refine v_iret F (pc := 10) (z := (iI ((τ 2) f))) dX4_hasFailed_10 rfl (nar_01 (by omega)) (Nat.le_of_ble_eq_true rfl) (Nat.le_of_ble_eq_true rfl) ?_
  exact ⟨rfl, rfl, by omega, by omega⟩
