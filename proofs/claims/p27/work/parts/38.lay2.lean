-- X0_fillCells
set_option maxRecDepth 100000 in
set_option maxHeartbeats 8000000 in
theorem k_X0_fillCells_5 (l : Launch) (g : gT) {P K : Nat → Nat} {r : Nat → Int → Option Nat} {cp : Nat → Nat} {b b' : Nat} {τ : sT} (hk : cok P K cp) (lo n v : Int) (hlo : 0 ≤ lo ∧ 0 ≤ n ∧ lo + n ≤ 160) : CM l g yX0_fillCells cX0_fillCells 5 none ({ frames := 1, cells := 0, slots := 0, locals := 20 }) [.ref (P 5), .int (iI (lo)), .int (iI (n)), .int (iI (v))] (cheap g P K r cp b b' τ) (pV none (cheap g P K r cp b b' (sf τ (5 + 1) (cFl (τ (5 + 1)) lo n v)))) (noX) := by
  refine CM.of (lo := [some (.ref (P 5)), some (.int (iI (lo))), some (.int (iI (n))), some (.int (iI (v))), none]) (by decide) (Nat.le_of_ble_eq_true rfl) (by simp [Value.category]) rfl ?_
  intro pX eX sX mX bX tX cX AX F htab hmn
  have F : Fx pX l sX mX ([.ref (P 5), .int (iI (lo)), .int (iI (n)), .int (iI (v))] : List Value).toArray tX cX cX0_fillCells 5 none RX0 g AX := F
  refine v_iload_n F (pc := 0) dX0_fillCells_0 rfl ?_
  refine v_istore F (pc := 1) (lo' := [some (.ref (P 5)), some (.int (iI (lo))), some (.int (iI (n))), some (.int (iI (v))), some (.int (iI (lo)))]) dX0_fillCells_1 (Nat.le_of_ble_eq_true rfl) rfl ?_
  have LP3 : ∀ (N_ : Nat) (j : Int), (0 ≤ j) → (j ≤ n) → (n - j).toNat < N_ → VE pX l eX ({ frames := 1, cells := 0, slots := 0, locals := 20 }) sX mX ([.ref (P 5), .int (iI (lo)), .int (iI (n)), .int (iI (v))] : List Value).toArray bX tX cX 5 g AX (cheap g P K r cp b b' (sf τ 6 (cFl (τ 6) lo j v))) 0 0 3 [some (.ref (P 5)), some (.int (iI (lo))), some (.int (iI (n))), some (.int (iI (v))), some (.int (iI (lo + j)))] [] (pV none (cheap g P K r cp b b' (sf τ (5 + 1) (cFl (τ (5 + 1)) lo n v)))) (noX) 0 0 := by
    intro N_
    induction N_ with
    | zero => intro j _ _ hm_; exact absurd hm_ (Nat.not_lt_zero _)
    | succ N_ ih =>
      intro j hj0 hj1 hm_
      refine v_iload F (pc := 3) dX0_fillCells_3 rfl ?_
      refine v_iload_n F (pc := 5) dX0_fillCells_5 rfl ?_
      refine v_iload_n F (pc := 6) dX0_fillCells_6 rfl ?_
      refine v_iadd F (pc := 7) (a := lo) (b := n) dX0_fillCells_7 ?_
      refine v_icmp_ge F (pc := 8) (a := lo + j) (b := lo + n) 25 dX0_fillCells_8 (by decide) (by omega) (by omega) (fun c_1 => ?_) (fun c_1 => ?_)
      · refine v_vret F (pc := 25) dX0_fillCells_25 rfl (Nat.le_of_ble_eq_true rfl) (Nat.le_of_ble_eq_true rfl) ?_
        exact ⟨rfl, by rw [show j = n by omega]⟩
      · refine v_aload_n F (pc := 11) dX0_fillCells_11 rfl ?_
        refine v_getf F (pc := 12) fd_X0_9_3 (v := .ref (P 6)) dX0_fillCells_12 (ch_5 hk) rfl ?_
        refine v_iload F (pc := 15) dX0_fillCells_15 rfl ?_
        refine v_iload_n F (pc := 17) dX0_fillCells_17 rfl ?_
        refine v_iast F (pc := 18) (n := 160) (f := cFl (τ 6) lo j v) (z := lo + j) (x := v) dX0_fillCells_18 (ch_6 hk) (by omega) (by decide)  (h' := cheap g P K r cp b b' (su (sf τ 6 (cFl (τ 6) lo j v)) 6 (lo + j) v)) (cu_6 hk _) ?_
        refine v_iinc F (pc := 19) (lo' := [some (.ref (P 5)), some (.int (iI (lo))), some (.int (iI (n))), some (.int (iI (v))), some (.int (iI (lo + j + 1)))]) dX0_fillCells_19 rfl (Nat.le_of_ble_eq_true rfl) rfl ?_
        refine v_goto F (pc := 22) 3 dX0_fillCells_22 (by decide) ?_
        rw [sf_su, cFl_s hj0]
        exact V.to (ih (j + 1) (by omega) (by omega) (by omega)) rfl (by rw [show lo + (j + 1) = lo + j + 1 by omega]) rfl
  have e0_ := LP3 _ 0 (Int.le_refl 0) hlo.2.1 (Nat.lt_succ_self _)
  rw [cFl_0, sf_id] at e0_
  exact V.to e0_ rfl (by rw [Int.add_zero]) rfl
-- X0_fillCells
set_option maxRecDepth 100000 in
set_option maxHeartbeats 8000000 in
theorem k_X0_fillCells_12 (l : Launch) (g : gT) {P K : Nat → Nat} {r : Nat → Int → Option Nat} {cp : Nat → Nat} {b b' : Nat} {τ : sT} (hk : cok P K cp) (lo n v : Int) (hlo : 0 ≤ lo ∧ 0 ≤ n ∧ lo + n ≤ 160) : CM l g yX0_fillCells cX0_fillCells 5 none ({ frames := 1, cells := 0, slots := 0, locals := 20 }) [.ref (P 12), .int (iI (lo)), .int (iI (n)), .int (iI (v))] (cheap g P K r cp b b' τ) (pV none (cheap g P K r cp b b' (sf τ (12 + 1) (cFl (τ (12 + 1)) lo n v)))) (noX) := by
  refine CM.of (lo := [some (.ref (P 12)), some (.int (iI (lo))), some (.int (iI (n))), some (.int (iI (v))), none]) (by decide) (Nat.le_of_ble_eq_true rfl) (by simp [Value.category]) rfl ?_
  intro pX eX sX mX bX tX cX AX F htab hmn
  have F : Fx pX l sX mX ([.ref (P 12), .int (iI (lo)), .int (iI (n)), .int (iI (v))] : List Value).toArray tX cX cX0_fillCells 5 none RX0 g AX := F
  refine v_iload_n F (pc := 0) dX0_fillCells_0 rfl ?_
  refine v_istore F (pc := 1) (lo' := [some (.ref (P 12)), some (.int (iI (lo))), some (.int (iI (n))), some (.int (iI (v))), some (.int (iI (lo)))]) dX0_fillCells_1 (Nat.le_of_ble_eq_true rfl) rfl ?_
  have LP3 : ∀ (N_ : Nat) (j : Int), (0 ≤ j) → (j ≤ n) → (n - j).toNat < N_ → VE pX l eX ({ frames := 1, cells := 0, slots := 0, locals := 20 }) sX mX ([.ref (P 12), .int (iI (lo)), .int (iI (n)), .int (iI (v))] : List Value).toArray bX tX cX 5 g AX (cheap g P K r cp b b' (sf τ 13 (cFl (τ 13) lo j v))) 0 0 3 [some (.ref (P 12)), some (.int (iI (lo))), some (.int (iI (n))), some (.int (iI (v))), some (.int (iI (lo + j)))] [] (pV none (cheap g P K r cp b b' (sf τ (12 + 1) (cFl (τ (12 + 1)) lo n v)))) (noX) 0 0 := by
    intro N_
    induction N_ with
    | zero => intro j _ _ hm_; exact absurd hm_ (Nat.not_lt_zero _)
    | succ N_ ih =>
      intro j hj0 hj1 hm_
      refine v_iload F (pc := 3) dX0_fillCells_3 rfl ?_
      refine v_iload_n F (pc := 5) dX0_fillCells_5 rfl ?_
      refine v_iload_n F (pc := 6) dX0_fillCells_6 rfl ?_
      refine v_iadd F (pc := 7) (a := lo) (b := n) dX0_fillCells_7 ?_
      refine v_icmp_ge F (pc := 8) (a := lo + j) (b := lo + n) 25 dX0_fillCells_8 (by decide) (by omega) (by omega) (fun c_1 => ?_) (fun c_1 => ?_)
      · refine v_vret F (pc := 25) dX0_fillCells_25 rfl (Nat.le_of_ble_eq_true rfl) (Nat.le_of_ble_eq_true rfl) ?_
        exact ⟨rfl, by rw [show j = n by omega]⟩
      · refine v_aload_n F (pc := 11) dX0_fillCells_11 rfl ?_
        refine v_getf F (pc := 12) fd_X0_9_3 (v := .ref (P 13)) dX0_fillCells_12 (ch_12 hk) rfl ?_
        refine v_iload F (pc := 15) dX0_fillCells_15 rfl ?_
        refine v_iload_n F (pc := 17) dX0_fillCells_17 rfl ?_
        refine v_iast F (pc := 18) (n := 160) (f := cFl (τ 13) lo j v) (z := lo + j) (x := v) dX0_fillCells_18 (ch_13 hk) (by omega) (by decide)  (h' := cheap g P K r cp b b' (su (sf τ 13 (cFl (τ 13) lo j v)) 13 (lo + j) v)) (cu_13 hk _) ?_
        refine v_iinc F (pc := 19) (lo' := [some (.ref (P 12)), some (.int (iI (lo))), some (.int (iI (n))), some (.int (iI (v))), some (.int (iI (lo + j + 1)))]) dX0_fillCells_19 rfl (Nat.le_of_ble_eq_true rfl) rfl ?_
        refine v_goto F (pc := 22) 3 dX0_fillCells_22 (by decide) ?_
        rw [sf_su, cFl_s hj0]
        exact V.to (ih (j + 1) (by omega) (by omega) (by omega)) rfl (by rw [show lo + (j + 1) = lo + j + 1 by omega]) rfl
  have e0_ := LP3 _ 0 (Int.le_refl 0) hlo.2.1 (Nat.lt_succ_self _)
  rw [cFl_0, sf_id] at e0_
  exact V.to e0_ rfl (by rw [Int.add_zero]) rfl
theorem k_X0_fillCells (l : Launch) (g : gT) {w : Nat} (hw : w = 5 ∨ w = 12) {P K : Nat → Nat} {r : Nat → Int → Option Nat} {cp : Nat → Nat} {b b' : Nat} {τ : sT} (hk : cok P K cp) (lo n v : Int) (hlo : 0 ≤ lo ∧ 0 ≤ n ∧ lo + n ≤ 160) : CM l g yX0_fillCells cX0_fillCells 5 none { frames := 1, cells := 0, slots := 0, locals := 20 } [.ref (P w), .int (iI (lo)), .int (iI (n)), .int (iI (v))] (cheap g P K r cp b b' τ) (pV none (cheap g P K r cp b b' (sf τ (w + 1) (cFl (τ (w + 1)) lo n v)))) (noX) := by
  rcases hw with rfl | rfl
  · exact k_X0_fillCells_5 l g hk lo n v hlo
  · exact k_X0_fillCells_12 l g hk lo n v hlo
-- X0_addLoads
set_option maxRecDepth 100000 in
set_option maxHeartbeats 8000000 in
theorem k_X0_addLoads_5 (l : Launch) (g : gT) {P K : Nat → Nat} {r : Nat → Int → Option Nat} {cp : Nat → Nat} {b b' : Nat} {τ : sT} (hk : cok P K cp) (k : Int) (hk8 : 0 ≤ k ∧ k < 8) {m : Nat} (hm : K m = 1) (hmb : Mb τ m) (sg : Int) : CM l g yX0_addLoads cX0_addLoads 5 none ({ frames := 4, cells := 0, slots := 0, locals := 84 }) [.ref (P 5), .int (iI (k)), .ref m, .int (iI (sg))] (cheap g P K r cp b b' τ) (pV none (cheap g P K r cp b b' (cAdd τ 5 k m sg))) (noX) := by
  refine CM.of (lo := [some (.ref (P 5)), some (.int (iI (k))), some (.ref m), some (.int (iI (sg))), none]) (by decide) (Nat.le_of_ble_eq_true rfl) (by simp [Value.category]) rfl ?_
  intro pX eX sX mX bX tX cX AX F htab hmn
  have F : Fx pX l sX mX ([.ref (P 5), .int (iI (k)), .ref m, .int (iI (sg))] : List Value).toArray tX cX cX0_addLoads 5 none RX0 g AX := F
  refine v_aload_n F (pc := 0) dX0_addLoads_0 rfl ?_
  refine v_getf F (pc := 1) fd_X0_15_3 (v := .ref (P 7)) dX0_addLoads_1 (ch_5 hk) rfl ?_
  refine v_iload_n F (pc := 4) dX0_addLoads_4 rfl ?_
  refine v_dup2 F (pc := 5) dX0_addLoads_5 rfl rfl ?_
  refine v_iald F (pc := 6) (n := 8) (f := τ 7) (z := k) dX0_addLoads_6 (ch_7 hk) (by omega) (by decide) ?_
  refine v_iload_n F (pc := 7) dX0_addLoads_7 rfl ?_
  refine v_aload_n F (pc := 8) dX0_addLoads_8 rfl ?_
  refine v_getf F (pc := 9) fd_X0_66_4 (v := .int (iI (τ 33 (m : Nat)))) dX0_addLoads_9 (ch_m hk hm) rfl ?_
  refine v_imul F (pc := 12) (a := sg) (b := τ 33 (m : Nat)) dX0_addLoads_12 ?_
  refine v_iadd F (pc := 13) (a := (τ 7) k) (b := sg * (τ 33 (m : Nat))) dX0_addLoads_13 ?_
  refine v_iast F (pc := 14) (n := 8) (f := τ 7) (z := k) (x := ((τ 7) k) + (sg * (τ 33 (m : Nat)))) dX0_addLoads_14 (ch_7 hk) (by omega) (by decide)  (h' := cheap g P K r cp b b' (su τ 7 k (((τ 7) k) + (sg * (τ 33 (m : Nat)))))) (cu_7 hk _) ?_
  refine v_aload_n F (pc := 15) dX0_addLoads_15 rfl ?_
  refine v_getf F (pc := 16) fd_X0_18_3 (v := .ref (P 8)) dX0_addLoads_16 (ch_5 hk) rfl ?_
  refine v_iload_n F (pc := 19) dX0_addLoads_19 rfl ?_
  refine v_dup2 F (pc := 20) dX0_addLoads_20 rfl rfl ?_
  refine v_iald F (pc := 21) (n := 8) (f := τ 8) (z := k) dX0_addLoads_21 (ch_8 hk) (by omega) (by decide) ?_
  refine v_iload_n F (pc := 22) dX0_addLoads_22 rfl ?_
  refine v_aload_n F (pc := 23) dX0_addLoads_23 rfl ?_
  refine v_getf F (pc := 24) fd_X0_68_4 (v := .int (iI (τ 32 (m : Nat)))) dX0_addLoads_24 (ch_m hk hm) rfl ?_
  refine v_imul F (pc := 27) (a := sg) (b := τ 32 (m : Nat)) dX0_addLoads_27 ?_
  refine v_iadd F (pc := 28) (a := (τ 8) k) (b := sg * (τ 32 (m : Nat))) dX0_addLoads_28 ?_
  refine v_iast F (pc := 29) (n := 8) (f := τ 8) (z := k) (x := ((τ 8) k) + (sg * (τ 32 (m : Nat)))) dX0_addLoads_29 (ch_8 hk) (by omega) (by decide)  (h' := cheap g P K r cp b b' (su (su τ 7 k (((τ 7) k) + (sg * (τ 33 (m : Nat))))) 8 k (((τ 8) k) + (sg * (τ 32 (m : Nat)))))) (cu_8 hk _) ?_
  refine v_iconst F (pc := 30) dX0_addLoads_30 ?_
  refine v_istore F (pc := 31) (lo' := [some (.ref (P 5)), some (.int (iI (k))), some (.ref m), some (.int (iI (sg))), some (.int (iI (0)))]) dX0_addLoads_31 (Nat.le_of_ble_eq_true rfl) rfl ?_
  refine v_iload F (pc := 33) dX0_addLoads_33 rfl ?_
  refine v_iconst F (pc := 35) dX0_addLoads_35 ?_
  refine v_icmp_ge F (pc := 36) (a := 0) (b := 2) 65 dX0_addLoads_36 (by decide) (by omega) (by omega) (fun c_1 => ?_) (fun c_1 => ?_)
  · exact absurd c_1 (by decide)
  · refine v_aload_n F (pc := 39) dX0_addLoads_39 rfl ?_
    refine v_getf F (pc := 40) fd_X0_23_3 (v := .ref (P 9)) dX0_addLoads_40 (ch_5 hk) rfl ?_
    refine v_iload F (pc := 43) dX0_addLoads_43 rfl ?_
    refine v_aaldA F (pc := 45) (n := 2) (r := cout P 5) (z := 0) (q := P 10) dX0_addLoads_45 (ch_9 hk) (by omega) (by decide) rfl ?_
    refine v_iload_n F (pc := 46) dX0_addLoads_46 rfl ?_
    refine v_dup2 F (pc := 47) dX0_addLoads_47 rfl rfl ?_
    refine v_iald F (pc := 48) (n := 8) (f := τ 10) (z := k) dX0_addLoads_48 (ch_10 hk) (by omega) (by decide) ?_
    refine v_iload_n F (pc := 49) dX0_addLoads_49 rfl ?_
    refine v_aload_n F (pc := 50) dX0_addLoads_50 rfl ?_
    refine v_iload F (pc := 51) dX0_addLoads_51 rfl ?_
    refine v_callVp F (pc := 53) (As := [.int (iI (0))]) (rest := [.int (iI (sg)), .int (iI ((τ 10) k)), .int (iI (k)), .ref (P 10)]) ci_X0_71 ct_X1_worstOn cs_X1_worstOn (k_X1_worstOn l g hk (τ := su (su τ 7 k (((τ 7) k) + (sg * (τ 33 (m : Nat))))) 8 k (((τ 8) k) + (sg * (τ 32 (m : Nat))))) (K := K) (r := r) (cp := cp) (b := b) (b' := b') (m := m) hm hmb 0 (by omega)) dX0_addLoads_53 (k0 := 4) rfl rfl (ch_m hk hm) rfl rfl (Nat.le_of_ble_eq_true rfl) (Nat.le_of_ble_eq_true rfl) (Nat.le_of_ble_eq_true rfl) (Nat.le_of_ble_eq_true rfl) (Nat.le_of_ble_eq_true rfl) ?_ (fun _ _ z => z.elim)
    refine v_imul F (pc := 56) (a := sg) (b := m_pw (τ 34 m) 0 (τ 32 m)) dX0_addLoads_56 ?_
    refine v_iadd F (pc := 57) (a := (τ 10) k) (b := sg * (m_pw (τ 34 m) 0 (τ 32 m))) dX0_addLoads_57 ?_
    refine v_iast F (pc := 58) (n := 8) (f := τ 10) (z := k) (x := ((τ 10) k) + (sg * (m_pw (τ 34 m) 0 (τ 32 m)))) dX0_addLoads_58 (ch_10 hk) (by omega) (by decide)  (h' := cheap g P K r cp b b' (su (su (su τ 7 k (((τ 7) k) + (sg * (τ 33 (m : Nat))))) 8 k (((τ 8) k) + (sg * (τ 32 (m : Nat))))) 10 k (((τ 10) k) + (sg * (m_pw (τ 34 m) 0 (τ 32 m)))))) (cu_10 hk _) ?_
    refine v_iinc F (pc := 59) (lo' := [some (.ref (P 5)), some (.int (iI (k))), some (.ref m), some (.int (iI (sg))), some (.int (iI (1)))]) dX0_addLoads_59 rfl (Nat.le_of_ble_eq_true rfl) rfl ?_
    refine v_goto F (pc := 62) 33 dX0_addLoads_62 (by decide) ?_
    refine v_iload F (pc := 33) dX0_addLoads_33 rfl ?_
    refine v_iconst F (pc := 35) dX0_addLoads_35 ?_
    refine v_icmp_ge F (pc := 36) (a := 1) (b := 2) 65 dX0_addLoads_36 (by decide) (by omega) (by omega) (fun c_2 => ?_) (fun c_2 => ?_)
    · exact absurd c_2 (by decide)
    · refine v_aload_n F (pc := 39) dX0_addLoads_39 rfl ?_
      refine v_getf F (pc := 40) fd_X0_23_3 (v := .ref (P 9)) dX0_addLoads_40 (ch_5 hk) rfl ?_
      refine v_iload F (pc := 43) dX0_addLoads_43 rfl ?_
      refine v_aaldA F (pc := 45) (n := 2) (r := cout P 5) (z := 1) (q := P 11) dX0_addLoads_45 (ch_9 hk) (by omega) (by decide) rfl ?_
      refine v_iload_n F (pc := 46) dX0_addLoads_46 rfl ?_
      refine v_dup2 F (pc := 47) dX0_addLoads_47 rfl rfl ?_
      refine v_iald F (pc := 48) (n := 8) (f := τ 11) (z := k) dX0_addLoads_48 (ch_11 hk) (by omega) (by decide) ?_
      refine v_iload_n F (pc := 49) dX0_addLoads_49 rfl ?_
      refine v_aload_n F (pc := 50) dX0_addLoads_50 rfl ?_
      refine v_iload F (pc := 51) dX0_addLoads_51 rfl ?_
      refine v_callVp F (pc := 53) (As := [.int (iI (1))]) (rest := [.int (iI (sg)), .int (iI ((τ 11) k)), .int (iI (k)), .ref (P 11)]) ci_X0_71 ct_X1_worstOn cs_X1_worstOn (k_X1_worstOn l g hk (τ := su (su (su τ 7 k (((τ 7) k) + (sg * (τ 33 (m : Nat))))) 8 k (((τ 8) k) + (sg * (τ 32 (m : Nat))))) 10 k (((τ 10) k) + (sg * (m_pw (τ 34 m) 0 (τ 32 m))))) (K := K) (r := r) (cp := cp) (b := b) (b' := b') (m := m) hm hmb 1 (by omega)) dX0_addLoads_53 (k0 := 4) rfl rfl (ch_m hk hm) rfl rfl (Nat.le_of_ble_eq_true rfl) (Nat.le_of_ble_eq_true rfl) (Nat.le_of_ble_eq_true rfl) (Nat.le_of_ble_eq_true rfl) (Nat.le_of_ble_eq_true rfl) ?_ (fun _ _ z => z.elim)
      refine v_imul F (pc := 56) (a := sg) (b := m_pw (τ 34 m) 1 (τ 32 m)) dX0_addLoads_56 ?_
      refine v_iadd F (pc := 57) (a := (τ 11) k) (b := sg * (m_pw (τ 34 m) 1 (τ 32 m))) dX0_addLoads_57 ?_
      refine v_iast F (pc := 58) (n := 8) (f := τ 11) (z := k) (x := ((τ 11) k) + (sg * (m_pw (τ 34 m) 1 (τ 32 m)))) dX0_addLoads_58 (ch_11 hk) (by omega) (by decide)  (h' := cheap g P K r cp b b' (su (su (su (su τ 7 k (((τ 7) k) + (sg * (τ 33 (m : Nat))))) 8 k (((τ 8) k) + (sg * (τ 32 (m : Nat))))) 10 k (((τ 10) k) + (sg * (m_pw (τ 34 m) 0 (τ 32 m))))) 11 k (((τ 11) k) + (sg * (m_pw (τ 34 m) 1 (τ 32 m)))))) (cu_11 hk _) ?_
      refine v_iinc F (pc := 59) (lo' := [some (.ref (P 5)), some (.int (iI (k))), some (.ref m), some (.int (iI (sg))), some (.int (iI (2)))]) dX0_addLoads_59 rfl (Nat.le_of_ble_eq_true rfl) rfl ?_
      refine v_goto F (pc := 62) 33 dX0_addLoads_62 (by decide) ?_
      refine v_iload F (pc := 33) dX0_addLoads_33 rfl ?_
      refine v_iconst F (pc := 35) dX0_addLoads_35 ?_
      refine v_icmp_ge F (pc := 36) (a := 2) (b := 2) 65 dX0_addLoads_36 (by decide) (by omega) (by omega) (fun c_3 => ?_) (fun c_3 => ?_)
      · refine v_vret F (pc := 65) dX0_addLoads_65 rfl (Nat.le_of_ble_eq_true rfl) (Nat.le_of_ble_eq_true rfl) ?_
        exact ⟨rfl, rfl⟩
      · exact absurd c_3 (by decide)
-- X0_addLoads
set_option maxRecDepth 100000 in
set_option maxHeartbeats 8000000 in
theorem k_X0_addLoads_12 (l : Launch) (g : gT) {P K : Nat → Nat} {r : Nat → Int → Option Nat} {cp : Nat → Nat} {b b' : Nat} {τ : sT} (hk : cok P K cp) (k : Int) (hk8 : 0 ≤ k ∧ k < 8) {m : Nat} (hm : K m = 1) (hmb : Mb τ m) (sg : Int) : CM l g yX0_addLoads cX0_addLoads 5 none ({ frames := 4, cells := 0, slots := 0, locals := 84 }) [.ref (P 12), .int (iI (k)), .ref m, .int (iI (sg))] (cheap g P K r cp b b' τ) (pV none (cheap g P K r cp b b' (cAdd τ 12 k m sg))) (noX) := by
  refine CM.of (lo := [some (.ref (P 12)), some (.int (iI (k))), some (.ref m), some (.int (iI (sg))), none]) (by decide) (Nat.le_of_ble_eq_true rfl) (by simp [Value.category]) rfl ?_
  intro pX eX sX mX bX tX cX AX F htab hmn
  have F : Fx pX l sX mX ([.ref (P 12), .int (iI (k)), .ref m, .int (iI (sg))] : List Value).toArray tX cX cX0_addLoads 5 none RX0 g AX := F
  refine v_aload_n F (pc := 0) dX0_addLoads_0 rfl ?_
  refine v_getf F (pc := 1) fd_X0_15_3 (v := .ref (P 14)) dX0_addLoads_1 (ch_12 hk) rfl ?_
  refine v_iload_n F (pc := 4) dX0_addLoads_4 rfl ?_
  refine v_dup2 F (pc := 5) dX0_addLoads_5 rfl rfl ?_
  refine v_iald F (pc := 6) (n := 8) (f := τ 14) (z := k) dX0_addLoads_6 (ch_14 hk) (by omega) (by decide) ?_
  refine v_iload_n F (pc := 7) dX0_addLoads_7 rfl ?_
  refine v_aload_n F (pc := 8) dX0_addLoads_8 rfl ?_
  refine v_getf F (pc := 9) fd_X0_66_4 (v := .int (iI (τ 33 (m : Nat)))) dX0_addLoads_9 (ch_m hk hm) rfl ?_
  refine v_imul F (pc := 12) (a := sg) (b := τ 33 (m : Nat)) dX0_addLoads_12 ?_
  refine v_iadd F (pc := 13) (a := (τ 14) k) (b := sg * (τ 33 (m : Nat))) dX0_addLoads_13 ?_
  refine v_iast F (pc := 14) (n := 8) (f := τ 14) (z := k) (x := ((τ 14) k) + (sg * (τ 33 (m : Nat)))) dX0_addLoads_14 (ch_14 hk) (by omega) (by decide)  (h' := cheap g P K r cp b b' (su τ 14 k (((τ 14) k) + (sg * (τ 33 (m : Nat)))))) (cu_14 hk _) ?_
  refine v_aload_n F (pc := 15) dX0_addLoads_15 rfl ?_
  refine v_getf F (pc := 16) fd_X0_18_3 (v := .ref (P 15)) dX0_addLoads_16 (ch_12 hk) rfl ?_
  refine v_iload_n F (pc := 19) dX0_addLoads_19 rfl ?_
  refine v_dup2 F (pc := 20) dX0_addLoads_20 rfl rfl ?_
  refine v_iald F (pc := 21) (n := 8) (f := τ 15) (z := k) dX0_addLoads_21 (ch_15 hk) (by omega) (by decide) ?_
  refine v_iload_n F (pc := 22) dX0_addLoads_22 rfl ?_
  refine v_aload_n F (pc := 23) dX0_addLoads_23 rfl ?_
  refine v_getf F (pc := 24) fd_X0_68_4 (v := .int (iI (τ 32 (m : Nat)))) dX0_addLoads_24 (ch_m hk hm) rfl ?_
  refine v_imul F (pc := 27) (a := sg) (b := τ 32 (m : Nat)) dX0_addLoads_27 ?_
  refine v_iadd F (pc := 28) (a := (τ 15) k) (b := sg * (τ 32 (m : Nat))) dX0_addLoads_28 ?_
  refine v_iast F (pc := 29) (n := 8) (f := τ 15) (z := k) (x := ((τ 15) k) + (sg * (τ 32 (m : Nat)))) dX0_addLoads_29 (ch_15 hk) (by omega) (by decide)  (h' := cheap g P K r cp b b' (su (su τ 14 k (((τ 14) k) + (sg * (τ 33 (m : Nat))))) 15 k (((τ 15) k) + (sg * (τ 32 (m : Nat)))))) (cu_15 hk _) ?_
  refine v_iconst F (pc := 30) dX0_addLoads_30 ?_
  refine v_istore F (pc := 31) (lo' := [some (.ref (P 12)), some (.int (iI (k))), some (.ref m), some (.int (iI (sg))), some (.int (iI (0)))]) dX0_addLoads_31 (Nat.le_of_ble_eq_true rfl) rfl ?_
  refine v_iload F (pc := 33) dX0_addLoads_33 rfl ?_
  refine v_iconst F (pc := 35) dX0_addLoads_35 ?_
  refine v_icmp_ge F (pc := 36) (a := 0) (b := 2) 65 dX0_addLoads_36 (by decide) (by omega) (by omega) (fun c_1 => ?_) (fun c_1 => ?_)
  · exact absurd c_1 (by decide)
  · refine v_aload_n F (pc := 39) dX0_addLoads_39 rfl ?_
    refine v_getf F (pc := 40) fd_X0_23_3 (v := .ref (P 16)) dX0_addLoads_40 (ch_12 hk) rfl ?_
    refine v_iload F (pc := 43) dX0_addLoads_43 rfl ?_
    refine v_aaldA F (pc := 45) (n := 2) (r := cout P 12) (z := 0) (q := P 17) dX0_addLoads_45 (ch_16 hk) (by omega) (by decide) rfl ?_
    refine v_iload_n F (pc := 46) dX0_addLoads_46 rfl ?_
    refine v_dup2 F (pc := 47) dX0_addLoads_47 rfl rfl ?_
    refine v_iald F (pc := 48) (n := 8) (f := τ 17) (z := k) dX0_addLoads_48 (ch_17 hk) (by omega) (by decide) ?_
    refine v_iload_n F (pc := 49) dX0_addLoads_49 rfl ?_
    refine v_aload_n F (pc := 50) dX0_addLoads_50 rfl ?_
    refine v_iload F (pc := 51) dX0_addLoads_51 rfl ?_
    refine v_callVp F (pc := 53) (As := [.int (iI (0))]) (rest := [.int (iI (sg)), .int (iI ((τ 17) k)), .int (iI (k)), .ref (P 17)]) ci_X0_71 ct_X1_worstOn cs_X1_worstOn (k_X1_worstOn l g hk (τ := su (su τ 14 k (((τ 14) k) + (sg * (τ 33 (m : Nat))))) 15 k (((τ 15) k) + (sg * (τ 32 (m : Nat))))) (K := K) (r := r) (cp := cp) (b := b) (b' := b') (m := m) hm hmb 0 (by omega)) dX0_addLoads_53 (k0 := 4) rfl rfl (ch_m hk hm) rfl rfl (Nat.le_of_ble_eq_true rfl) (Nat.le_of_ble_eq_true rfl) (Nat.le_of_ble_eq_true rfl) (Nat.le_of_ble_eq_true rfl) (Nat.le_of_ble_eq_true rfl) ?_ (fun _ _ z => z.elim)
    refine v_imul F (pc := 56) (a := sg) (b := m_pw (τ 34 m) 0 (τ 32 m)) dX0_addLoads_56 ?_
    refine v_iadd F (pc := 57) (a := (τ 17) k) (b := sg * (m_pw (τ 34 m) 0 (τ 32 m))) dX0_addLoads_57 ?_
    refine v_iast F (pc := 58) (n := 8) (f := τ 17) (z := k) (x := ((τ 17) k) + (sg * (m_pw (τ 34 m) 0 (τ 32 m)))) dX0_addLoads_58 (ch_17 hk) (by omega) (by decide)  (h' := cheap g P K r cp b b' (su (su (su τ 14 k (((τ 14) k) + (sg * (τ 33 (m : Nat))))) 15 k (((τ 15) k) + (sg * (τ 32 (m : Nat))))) 17 k (((τ 17) k) + (sg * (m_pw (τ 34 m) 0 (τ 32 m)))))) (cu_17 hk _) ?_
    refine v_iinc F (pc := 59) (lo' := [some (.ref (P 12)), some (.int (iI (k))), some (.ref m), some (.int (iI (sg))), some (.int (iI (1)))]) dX0_addLoads_59 rfl (Nat.le_of_ble_eq_true rfl) rfl ?_
    refine v_goto F (pc := 62) 33 dX0_addLoads_62 (by decide) ?_
    refine v_iload F (pc := 33) dX0_addLoads_33 rfl ?_
    refine v_iconst F (pc := 35) dX0_addLoads_35 ?_
    refine v_icmp_ge F (pc := 36) (a := 1) (b := 2) 65 dX0_addLoads_36 (by decide) (by omega) (by omega) (fun c_2 => ?_) (fun c_2 => ?_)
    · exact absurd c_2 (by decide)
    · refine v_aload_n F (pc := 39) dX0_addLoads_39 rfl ?_
      refine v_getf F (pc := 40) fd_X0_23_3 (v := .ref (P 16)) dX0_addLoads_40 (ch_12 hk) rfl ?_
      refine v_iload F (pc := 43) dX0_addLoads_43 rfl ?_
      refine v_aaldA F (pc := 45) (n := 2) (r := cout P 12) (z := 1) (q := P 18) dX0_addLoads_45 (ch_16 hk) (by omega) (by decide) rfl ?_
      refine v_iload_n F (pc := 46) dX0_addLoads_46 rfl ?_
      refine v_dup2 F (pc := 47) dX0_addLoads_47 rfl rfl ?_
      refine v_iald F (pc := 48) (n := 8) (f := τ 18) (z := k) dX0_addLoads_48 (ch_18 hk) (by omega) (by decide) ?_
      refine v_iload_n F (pc := 49) dX0_addLoads_49 rfl ?_
      refine v_aload_n F (pc := 50) dX0_addLoads_50 rfl ?_
      refine v_iload F (pc := 51) dX0_addLoads_51 rfl ?_
      refine v_callVp F (pc := 53) (As := [.int (iI (1))]) (rest := [.int (iI (sg)), .int (iI ((τ 18) k)), .int (iI (k)), .ref (P 18)]) ci_X0_71 ct_X1_worstOn cs_X1_worstOn (k_X1_worstOn l g hk (τ := su (su (su τ 14 k (((τ 14) k) + (sg * (τ 33 (m : Nat))))) 15 k (((τ 15) k) + (sg * (τ 32 (m : Nat))))) 17 k (((τ 17) k) + (sg * (m_pw (τ 34 m) 0 (τ 32 m))))) (K := K) (r := r) (cp := cp) (b := b) (b' := b') (m := m) hm hmb 1 (by omega)) dX0_addLoads_53 (k0 := 4) rfl rfl (ch_m hk hm) rfl rfl (Nat.le_of_ble_eq_true rfl) (Nat.le_of_ble_eq_true rfl) (Nat.le_of_ble_eq_true rfl) (Nat.le_of_ble_eq_true rfl) (Nat.le_of_ble_eq_true rfl) ?_ (fun _ _ z => z.elim)
      refine v_imul F (pc := 56) (a := sg) (b := m_pw (τ 34 m) 1 (τ 32 m)) dX0_addLoads_56 ?_
      refine v_iadd F (pc := 57) (a := (τ 18) k) (b := sg * (m_pw (τ 34 m) 1 (τ 32 m))) dX0_addLoads_57 ?_
      refine v_iast F (pc := 58) (n := 8) (f := τ 18) (z := k) (x := ((τ 18) k) + (sg * (m_pw (τ 34 m) 1 (τ 32 m)))) dX0_addLoads_58 (ch_18 hk) (by omega) (by decide)  (h' := cheap g P K r cp b b' (su (su (su (su τ 14 k (((τ 14) k) + (sg * (τ 33 (m : Nat))))) 15 k (((τ 15) k) + (sg * (τ 32 (m : Nat))))) 17 k (((τ 17) k) + (sg * (m_pw (τ 34 m) 0 (τ 32 m))))) 18 k (((τ 18) k) + (sg * (m_pw (τ 34 m) 1 (τ 32 m)))))) (cu_18 hk _) ?_
      refine v_iinc F (pc := 59) (lo' := [some (.ref (P 12)), some (.int (iI (k))), some (.ref m), some (.int (iI (sg))), some (.int (iI (2)))]) dX0_addLoads_59 rfl (Nat.le_of_ble_eq_true rfl) rfl ?_
      refine v_goto F (pc := 62) 33 dX0_addLoads_62 (by decide) ?_
      refine v_iload F (pc := 33) dX0_addLoads_33 rfl ?_
      refine v_iconst F (pc := 35) dX0_addLoads_35 ?_
      refine v_icmp_ge F (pc := 36) (a := 2) (b := 2) 65 dX0_addLoads_36 (by decide) (by omega) (by omega) (fun c_3 => ?_) (fun c_3 => ?_)
      · refine v_vret F (pc := 65) dX0_addLoads_65 rfl (Nat.le_of_ble_eq_true rfl) (Nat.le_of_ble_eq_true rfl) ?_
        exact ⟨rfl, rfl⟩
      · exact absurd c_3 (by decide)
theorem k_X0_addLoads (l : Launch) (g : gT) {w : Nat} (hw : w = 5 ∨ w = 12) {P K : Nat → Nat} {r : Nat → Int → Option Nat} {cp : Nat → Nat} {b b' : Nat} {τ : sT} (hk : cok P K cp) (k : Int) (hk8 : 0 ≤ k ∧ k < 8) {m : Nat} (hm : K m = 1) (hmb : Mb τ m) (sg : Int) : CM l g yX0_addLoads cX0_addLoads 5 none { frames := 4, cells := 0, slots := 0, locals := 84 } [.ref (P w), .int (iI (k)), .ref m, .int (iI (sg))] (cheap g P K r cp b b' τ) (pV none (cheap g P K r cp b b' (cAdd τ w k m sg))) (noX) := by
  rcases hw with rfl | rfl
  · exact k_X0_addLoads_5 l g hk k hk8 hm hmb sg
  · exact k_X0_addLoads_12 l g hk k hk8 hm hmb sg
-- X0_put
set_option maxRecDepth 100000 in
set_option maxHeartbeats 8000000 in
theorem k_X0_put_5 (l : Launch) (g : gT) {P K : Nat → Nat} {r : Nat → Int → Option Nat} {cp : Nat → Nat} {b b' : Nat} {τ : sT} (hk : cok P K cp) {m : Nat} (hm : K m = 1) (hmb : Mb τ m) (c : Int) (hc : 0 ≤ c ∧ c + τ 31 m ≤ 160) : CM l g yX0_put cX0_put 3 none ({ frames := 5, cells := 0, slots := 0, locals := 108 }) [.ref (P 5), .ref m, .int (iI (c))] (cheap g P K r cp b b' τ) (pV none (cheap g P K r cp b b' (cPut τ 5 m c))) (noX) := by
  refine CM.of (lo := [some (.ref (P 5)), some (.ref m), some (.int (iI (c)))]) (by decide) (Nat.le_of_ble_eq_true rfl) (by simp [Value.category]) rfl ?_
  intro pX eX sX mX bX tX cX AX F htab hmn
  have F : Fx pX l sX mX ([.ref (P 5), .ref m, .int (iI (c))] : List Value).toArray tX cX cX0_put 3 none RX0 g AX := F
  refine v_aload_n F (pc := 0) dX0_put_0 rfl ?_
  refine v_iload_n F (pc := 1) dX0_put_1 rfl ?_
  refine v_aload_n F (pc := 2) dX0_put_2 rfl ?_
  refine v_getf F (pc := 3) fd_X0_42_4 (v := .int (iI (τ 31 (m : Nat)))) dX0_put_3 (ch_m hk hm) rfl ?_
  refine v_aload_n F (pc := 6) dX0_put_6 rfl ?_
  refine v_getf F (pc := 7) fd_X0_48_4 (v := .int (iI (τ 30 (m : Nat)))) dX0_put_7 (ch_m hk hm) rfl ?_
  refine v_callVn F (pc := 10) (As := [.int (iI (c)), .int (iI (τ 31 (m : Nat))), .int (iI (τ 30 (m : Nat)))]) (rest := []) ci_X0_51 ct_X0_fillCells cs_X0_fillCells (k_X0_fillCells l g (Or.inl rfl) hk (τ := τ) (K := K) (r := r) (cp := cp) (b := b) (b' := b') c (τ 31 (m : Nat)) (τ 30 (m : Nat)) (by omega)) dX0_put_10 (k0 := 3) rfl rfl (ch_5 hk) rfl rfl (Nat.le_of_ble_eq_true rfl) (Nat.le_of_ble_eq_true rfl) (Nat.le_of_ble_eq_true rfl) (Nat.le_of_ble_eq_true rfl) (Nat.le_of_ble_eq_true rfl) ?_ (fun _ _ z => z.elim)
  refine v_aload_n F (pc := 13) dX0_put_13 rfl ?_
  refine v_iload_n F (pc := 14) dX0_put_14 rfl ?_
  refine v_callNp F (pc := 15) (As := [.int (iI (c))]) (rest := [.ref (P 5)]) cn_X0_55 ct_X4_rackOfCell (k_X4_rackOfCell l g c (by omega)) dX0_put_15 rfl rfl (Nat.le_of_ble_eq_true rfl) (Nat.le_of_ble_eq_true rfl) (Nat.le_of_ble_eq_true rfl) (Nat.le_of_ble_eq_true rfl) (Nat.le_of_ble_eq_true rfl) ?_
  refine v_aload_n F (pc := 18) dX0_put_18 rfl ?_
  refine v_iconst F (pc := 19) dX0_put_19 ?_
  refine v_callVn F (pc := 20) (As := [.int (iI (c / 20)), .ref m, .int (iI (1))]) (rest := []) ci_X0_59 ct_X0_addLoads cs_X0_addLoads (k_X0_addLoads l g (Or.inl rfl) hk (τ := sf τ 6 (cFl (τ 6) c (τ 31 (m : Nat)) (τ 30 (m : Nat)))) (K := K) (r := r) (cp := cp) (b := b) (b' := b') (c / 20) (by omega) hm hmb 1) dX0_put_20 (k0 := 3) rfl rfl (ch_5 hk) rfl rfl (Nat.le_of_ble_eq_true rfl) (Nat.le_of_ble_eq_true rfl) (Nat.le_of_ble_eq_true rfl) (Nat.le_of_ble_eq_true rfl) (Nat.le_of_ble_eq_true rfl) ?_ (fun _ _ z => z.elim)
  refine v_vret F (pc := 23) dX0_put_23 rfl (Nat.le_of_ble_eq_true rfl) (Nat.le_of_ble_eq_true rfl) ?_
  exact ⟨rfl, rfl⟩
-- X0_put
set_option maxRecDepth 100000 in
set_option maxHeartbeats 8000000 in
theorem k_X0_put_12 (l : Launch) (g : gT) {P K : Nat → Nat} {r : Nat → Int → Option Nat} {cp : Nat → Nat} {b b' : Nat} {τ : sT} (hk : cok P K cp) {m : Nat} (hm : K m = 1) (hmb : Mb τ m) (c : Int) (hc : 0 ≤ c ∧ c + τ 31 m ≤ 160) : CM l g yX0_put cX0_put 3 none ({ frames := 5, cells := 0, slots := 0, locals := 108 }) [.ref (P 12), .ref m, .int (iI (c))] (cheap g P K r cp b b' τ) (pV none (cheap g P K r cp b b' (cPut τ 12 m c))) (noX) := by
  refine CM.of (lo := [some (.ref (P 12)), some (.ref m), some (.int (iI (c)))]) (by decide) (Nat.le_of_ble_eq_true rfl) (by simp [Value.category]) rfl ?_
  intro pX eX sX mX bX tX cX AX F htab hmn
  have F : Fx pX l sX mX ([.ref (P 12), .ref m, .int (iI (c))] : List Value).toArray tX cX cX0_put 3 none RX0 g AX := F
  refine v_aload_n F (pc := 0) dX0_put_0 rfl ?_
  refine v_iload_n F (pc := 1) dX0_put_1 rfl ?_
  refine v_aload_n F (pc := 2) dX0_put_2 rfl ?_
  refine v_getf F (pc := 3) fd_X0_42_4 (v := .int (iI (τ 31 (m : Nat)))) dX0_put_3 (ch_m hk hm) rfl ?_
  refine v_aload_n F (pc := 6) dX0_put_6 rfl ?_
  refine v_getf F (pc := 7) fd_X0_48_4 (v := .int (iI (τ 30 (m : Nat)))) dX0_put_7 (ch_m hk hm) rfl ?_
  refine v_callVn F (pc := 10) (As := [.int (iI (c)), .int (iI (τ 31 (m : Nat))), .int (iI (τ 30 (m : Nat)))]) (rest := []) ci_X0_51 ct_X0_fillCells cs_X0_fillCells (k_X0_fillCells l g (Or.inr rfl) hk (τ := τ) (K := K) (r := r) (cp := cp) (b := b) (b' := b') c (τ 31 (m : Nat)) (τ 30 (m : Nat)) (by omega)) dX0_put_10 (k0 := 3) rfl rfl (ch_12 hk) rfl rfl (Nat.le_of_ble_eq_true rfl) (Nat.le_of_ble_eq_true rfl) (Nat.le_of_ble_eq_true rfl) (Nat.le_of_ble_eq_true rfl) (Nat.le_of_ble_eq_true rfl) ?_ (fun _ _ z => z.elim)
  refine v_aload_n F (pc := 13) dX0_put_13 rfl ?_
  refine v_iload_n F (pc := 14) dX0_put_14 rfl ?_
  refine v_callNp F (pc := 15) (As := [.int (iI (c))]) (rest := [.ref (P 12)]) cn_X0_55 ct_X4_rackOfCell (k_X4_rackOfCell l g c (by omega)) dX0_put_15 rfl rfl (Nat.le_of_ble_eq_true rfl) (Nat.le_of_ble_eq_true rfl) (Nat.le_of_ble_eq_true rfl) (Nat.le_of_ble_eq_true rfl) (Nat.le_of_ble_eq_true rfl) ?_
  refine v_aload_n F (pc := 18) dX0_put_18 rfl ?_
  refine v_iconst F (pc := 19) dX0_put_19 ?_
  refine v_callVn F (pc := 20) (As := [.int (iI (c / 20)), .ref m, .int (iI (1))]) (rest := []) ci_X0_59 ct_X0_addLoads cs_X0_addLoads (k_X0_addLoads l g (Or.inr rfl) hk (τ := sf τ 13 (cFl (τ 13) c (τ 31 (m : Nat)) (τ 30 (m : Nat)))) (K := K) (r := r) (cp := cp) (b := b) (b' := b') (c / 20) (by omega) hm hmb 1) dX0_put_20 (k0 := 3) rfl rfl (ch_12 hk) rfl rfl (Nat.le_of_ble_eq_true rfl) (Nat.le_of_ble_eq_true rfl) (Nat.le_of_ble_eq_true rfl) (Nat.le_of_ble_eq_true rfl) (Nat.le_of_ble_eq_true rfl) ?_ (fun _ _ z => z.elim)
  refine v_vret F (pc := 23) dX0_put_23 rfl (Nat.le_of_ble_eq_true rfl) (Nat.le_of_ble_eq_true rfl) ?_
  exact ⟨rfl, rfl⟩
theorem k_X0_put (l : Launch) (g : gT) {w : Nat} (hw : w = 5 ∨ w = 12) {P K : Nat → Nat} {r : Nat → Int → Option Nat} {cp : Nat → Nat} {b b' : Nat} {τ : sT} (hk : cok P K cp) {m : Nat} (hm : K m = 1) (hmb : Mb τ m) (c : Int) (hc : 0 ≤ c ∧ c + τ 31 m ≤ 160) : CM l g yX0_put cX0_put 3 none { frames := 5, cells := 0, slots := 0, locals := 108 } [.ref (P w), .ref m, .int (iI (c))] (cheap g P K r cp b b' τ) (pV none (cheap g P K r cp b b' (cPut τ w m c))) (noX) := by
  rcases hw with rfl | rfl
  · exact k_X0_put_5 l g hk hm hmb c hc
  · exact k_X0_put_12 l g hk hm hmb c hc
-- X0_clear
set_option maxRecDepth 100000 in
set_option maxHeartbeats 8000000 in
theorem k_X0_clear_5 (l : Launch) (g : gT) {P K : Nat → Nat} {r : Nat → Int → Option Nat} {cp : Nat → Nat} {b b' : Nat} {τ : sT} (hk : cok P K cp) {m : Nat} (hm : K m = 1) (hmb : Mb τ m) (hc : 0 ≤ τ 35 m ∧ τ 35 m + τ 31 m ≤ 160) : CM l g yX0_clear cX0_clear 2 none ({ frames := 5, cells := 0, slots := 0, locals := 108 }) [.ref (P 5), .ref m] (cheap g P K r cp b b' τ) (pV none (cheap g P K r cp b b' (cClr τ 5 m))) (noX) := by
  refine CM.of (lo := [some (.ref (P 5)), some (.ref m)]) (by decide) (Nat.le_of_ble_eq_true rfl) (by simp [Value.category]) rfl ?_
  intro pX eX sX mX bX tX cX AX F htab hmn
  have F : Fx pX l sX mX ([.ref (P 5), .ref m] : List Value).toArray tX cX cX0_clear 2 none RX0 g AX := F
  refine v_aload_n F (pc := 0) dX0_clear_0 rfl ?_
  refine v_aload_n F (pc := 1) dX0_clear_1 rfl ?_
  refine v_getf F (pc := 2) fd_X0_63_4 (v := .int (iI (τ 35 (m : Nat)))) dX0_clear_2 (ch_m hk hm) rfl ?_
  refine v_aload_n F (pc := 5) dX0_clear_5 rfl ?_
  refine v_getf F (pc := 6) fd_X0_42_4 (v := .int (iI (τ 31 (m : Nat)))) dX0_clear_6 (ch_m hk hm) rfl ?_
  refine v_iconst F (pc := 9) dX0_clear_9 ?_
  refine v_callVn F (pc := 10) (As := [.int (iI (τ 35 (m : Nat))), .int (iI (τ 31 (m : Nat))), .int (iI (-1))]) (rest := []) ci_X0_51 ct_X0_fillCells cs_X0_fillCells (k_X0_fillCells l g (Or.inl rfl) hk (τ := τ) (K := K) (r := r) (cp := cp) (b := b) (b' := b') (τ 35 (m : Nat)) (τ 31 (m : Nat)) (-1) (by omega)) dX0_clear_10 (k0 := 3) rfl rfl (ch_5 hk) rfl rfl (Nat.le_of_ble_eq_true rfl) (Nat.le_of_ble_eq_true rfl) (Nat.le_of_ble_eq_true rfl) (Nat.le_of_ble_eq_true rfl) (Nat.le_of_ble_eq_true rfl) ?_ (fun _ _ z => z.elim)
  refine v_aload_n F (pc := 13) dX0_clear_13 rfl ?_
  refine v_aload_n F (pc := 14) dX0_clear_14 rfl ?_
  refine v_getf F (pc := 15) fd_X0_63_4 (v := .int (iI (τ 35 (m : Nat)))) dX0_clear_15 (ch_m hk hm) rfl ?_
  refine v_callNp F (pc := 18) (As := [.int (iI (τ 35 (m : Nat)))]) (rest := [.ref (P 5)]) cn_X0_55 ct_X4_rackOfCell (k_X4_rackOfCell l g (τ 35 (m : Nat)) (by omega)) dX0_clear_18 rfl rfl (Nat.le_of_ble_eq_true rfl) (Nat.le_of_ble_eq_true rfl) (Nat.le_of_ble_eq_true rfl) (Nat.le_of_ble_eq_true rfl) (Nat.le_of_ble_eq_true rfl) ?_
  refine v_aload_n F (pc := 21) dX0_clear_21 rfl ?_
  refine v_iconst F (pc := 22) dX0_clear_22 ?_
  refine v_callVn F (pc := 23) (As := [.int (iI ((τ 35 (m : Nat)) / 20)), .ref m, .int (iI (-1))]) (rest := []) ci_X0_59 ct_X0_addLoads cs_X0_addLoads (k_X0_addLoads l g (Or.inl rfl) hk (τ := sf τ 6 (cFl (τ 6) (τ 35 (m : Nat)) (τ 31 (m : Nat)) (-1))) (K := K) (r := r) (cp := cp) (b := b) (b' := b') ((τ 35 (m : Nat)) / 20) (by omega) hm hmb (-1)) dX0_clear_23 (k0 := 3) rfl rfl (ch_5 hk) rfl rfl (Nat.le_of_ble_eq_true rfl) (Nat.le_of_ble_eq_true rfl) (Nat.le_of_ble_eq_true rfl) (Nat.le_of_ble_eq_true rfl) (Nat.le_of_ble_eq_true rfl) ?_ (fun _ _ z => z.elim)
  refine v_vret F (pc := 26) dX0_clear_26 rfl (Nat.le_of_ble_eq_true rfl) (Nat.le_of_ble_eq_true rfl) ?_
  exact ⟨rfl, rfl⟩
-- X0_clear
set_option maxRecDepth 100000 in
set_option maxHeartbeats 8000000 in
theorem k_X0_clear_12 (l : Launch) (g : gT) {P K : Nat → Nat} {r : Nat → Int → Option Nat} {cp : Nat → Nat} {b b' : Nat} {τ : sT} (hk : cok P K cp) {m : Nat} (hm : K m = 1) (hmb : Mb τ m) (hc : 0 ≤ τ 35 m ∧ τ 35 m + τ 31 m ≤ 160) : CM l g yX0_clear cX0_clear 2 none ({ frames := 5, cells := 0, slots := 0, locals := 108 }) [.ref (P 12), .ref m] (cheap g P K r cp b b' τ) (pV none (cheap g P K r cp b b' (cClr τ 12 m))) (noX) := by
  refine CM.of (lo := [some (.ref (P 12)), some (.ref m)]) (by decide) (Nat.le_of_ble_eq_true rfl) (by simp [Value.category]) rfl ?_
  intro pX eX sX mX bX tX cX AX F htab hmn
  have F : Fx pX l sX mX ([.ref (P 12), .ref m] : List Value).toArray tX cX cX0_clear 2 none RX0 g AX := F
  refine v_aload_n F (pc := 0) dX0_clear_0 rfl ?_
  refine v_aload_n F (pc := 1) dX0_clear_1 rfl ?_
  refine v_getf F (pc := 2) fd_X0_63_4 (v := .int (iI (τ 35 (m : Nat)))) dX0_clear_2 (ch_m hk hm) rfl ?_
  refine v_aload_n F (pc := 5) dX0_clear_5 rfl ?_
  refine v_getf F (pc := 6) fd_X0_42_4 (v := .int (iI (τ 31 (m : Nat)))) dX0_clear_6 (ch_m hk hm) rfl ?_
  refine v_iconst F (pc := 9) dX0_clear_9 ?_
  refine v_callVn F (pc := 10) (As := [.int (iI (τ 35 (m : Nat))), .int (iI (τ 31 (m : Nat))), .int (iI (-1))]) (rest := []) ci_X0_51 ct_X0_fillCells cs_X0_fillCells (k_X0_fillCells l g (Or.inr rfl) hk (τ := τ) (K := K) (r := r) (cp := cp) (b := b) (b' := b') (τ 35 (m : Nat)) (τ 31 (m : Nat)) (-1) (by omega)) dX0_clear_10 (k0 := 3) rfl rfl (ch_12 hk) rfl rfl (Nat.le_of_ble_eq_true rfl) (Nat.le_of_ble_eq_true rfl) (Nat.le_of_ble_eq_true rfl) (Nat.le_of_ble_eq_true rfl) (Nat.le_of_ble_eq_true rfl) ?_ (fun _ _ z => z.elim)
  refine v_aload_n F (pc := 13) dX0_clear_13 rfl ?_
  refine v_aload_n F (pc := 14) dX0_clear_14 rfl ?_
  refine v_getf F (pc := 15) fd_X0_63_4 (v := .int (iI (τ 35 (m : Nat)))) dX0_clear_15 (ch_m hk hm) rfl ?_
  refine v_callNp F (pc := 18) (As := [.int (iI (τ 35 (m : Nat)))]) (rest := [.ref (P 12)]) cn_X0_55 ct_X4_rackOfCell (k_X4_rackOfCell l g (τ 35 (m : Nat)) (by omega)) dX0_clear_18 rfl rfl (Nat.le_of_ble_eq_true rfl) (Nat.le_of_ble_eq_true rfl) (Nat.le_of_ble_eq_true rfl) (Nat.le_of_ble_eq_true rfl) (Nat.le_of_ble_eq_true rfl) ?_
  refine v_aload_n F (pc := 21) dX0_clear_21 rfl ?_
  refine v_iconst F (pc := 22) dX0_clear_22 ?_
  refine v_callVn F (pc := 23) (As := [.int (iI ((τ 35 (m : Nat)) / 20)), .ref m, .int (iI (-1))]) (rest := []) ci_X0_59 ct_X0_addLoads cs_X0_addLoads (k_X0_addLoads l g (Or.inr rfl) hk (τ := sf τ 13 (cFl (τ 13) (τ 35 (m : Nat)) (τ 31 (m : Nat)) (-1))) (K := K) (r := r) (cp := cp) (b := b) (b' := b') ((τ 35 (m : Nat)) / 20) (by omega) hm hmb (-1)) dX0_clear_23 (k0 := 3) rfl rfl (ch_12 hk) rfl rfl (Nat.le_of_ble_eq_true rfl) (Nat.le_of_ble_eq_true rfl) (Nat.le_of_ble_eq_true rfl) (Nat.le_of_ble_eq_true rfl) (Nat.le_of_ble_eq_true rfl) ?_ (fun _ _ z => z.elim)
  refine v_vret F (pc := 26) dX0_clear_26 rfl (Nat.le_of_ble_eq_true rfl) (Nat.le_of_ble_eq_true rfl) ?_
  exact ⟨rfl, rfl⟩
theorem k_X0_clear (l : Launch) (g : gT) {w : Nat} (hw : w = 5 ∨ w = 12) {P K : Nat → Nat} {r : Nat → Int → Option Nat} {cp : Nat → Nat} {b b' : Nat} {τ : sT} (hk : cok P K cp) {m : Nat} (hm : K m = 1) (hmb : Mb τ m) (hc : 0 ≤ τ 35 m ∧ τ 35 m + τ 31 m ≤ 160) : CM l g yX0_clear cX0_clear 2 none { frames := 5, cells := 0, slots := 0, locals := 108 } [.ref (P w), .ref m] (cheap g P K r cp b b' τ) (pV none (cheap g P K r cp b b' (cClr τ w m))) (noX) := by
  rcases hw with rfl | rfl
  · exact k_X0_clear_5 l g hk hm hmb hc
  · exact k_X0_clear_12 l g hk hm hmb hc
-- X0_changeCords
set_option maxRecDepth 100000 in
set_option maxHeartbeats 8000000 in
theorem k_X0_changeCords_5 (l : Launch) (g : gT) {P K : Nat → Nat} {r : Nat → Int → Option Nat} {cp : Nat → Nat} {b b' : Nat} {τ : sT} (hk : cok P K cp) {m : Nat} (hm : K m = 1) (hmb : Mb τ m) (c : Int) (hc : 0 ≤ c ∧ c ≤ 2) (hcl : 0 ≤ τ 35 m) : CM l g yX0_changeCords cX0_changeCords 5 none ({ frames := 4, cells := 0, slots := 0, locals := 84 }) [.ref (P 5), .ref m, .int (iI (c))] (cheap g P K r cp b b' τ) (pV none (cheap g P K r cp b b' (cCC τ 5 m c))) (noX) := by
  refine CM.of (lo := [some (.ref (P 5)), some (.ref m), some (.int (iI (c))), none, none]) (by decide) (Nat.le_of_ble_eq_true rfl) (by simp [Value.category]) rfl ?_
  intro pX eX sX mX bX tX cX AX F htab hmn
  have F : Fx pX l sX mX ([.ref (P 5), .ref m, .int (iI (c))] : List Value).toArray tX cX cX0_changeCords 5 none RX0 g AX := F
  refine v_aload_n F (pc := 0) dX0_changeCords_0 rfl ?_
  refine v_getf F (pc := 1) fd_X0_63_4 (v := .int (iI (τ 35 (m : Nat)))) dX0_changeCords_1 (ch_m hk hm) rfl ?_
  refine v_callNp F (pc := 4) (As := [.int (iI (τ 35 (m : Nat)))]) (rest := []) cn_X0_55 ct_X4_rackOfCell (k_X4_rackOfCell l g (τ 35 (m : Nat)) (by omega)) dX0_changeCords_4 rfl rfl (Nat.le_of_ble_eq_true rfl) (Nat.le_of_ble_eq_true rfl) (Nat.le_of_ble_eq_true rfl) (Nat.le_of_ble_eq_true rfl) (Nat.le_of_ble_eq_true rfl) ?_
  refine v_istore_n F (pc := 7) (lo' := [some (.ref (P 5)), some (.ref m), some (.int (iI (c))), some (.int (iI ((τ 35 (m : Nat)) / 20))), none]) dX0_changeCords_7 (Nat.le_of_ble_eq_true rfl) rfl ?_
  refine v_iconst F (pc := 8) dX0_changeCords_8 ?_
  refine v_istore F (pc := 9) (lo' := [some (.ref (P 5)), some (.ref m), some (.int (iI (c))), some (.int (iI ((τ 35 (m : Nat)) / 20))), some (.int (iI (0)))]) dX0_changeCords_9 (Nat.le_of_ble_eq_true rfl) rfl ?_
  refine v_iload F (pc := 11) dX0_changeCords_11 rfl ?_
  refine v_iconst F (pc := 13) dX0_changeCords_13 ?_
  refine v_icmp_ge F (pc := 14) (a := 0) (b := 2) 49 dX0_changeCords_14 (by decide) (by omega) (by omega) (fun c_1 => ?_) (fun c_1 => ?_)
  · exact absurd c_1 (by decide)
  · refine v_aload_n F (pc := 17) dX0_changeCords_17 rfl ?_
    refine v_getf F (pc := 18) fd_X0_23_3 (v := .ref (P 9)) dX0_changeCords_18 (ch_5 hk) rfl ?_
    refine v_iload F (pc := 21) dX0_changeCords_21 rfl ?_
    refine v_aaldA F (pc := 23) (n := 2) (r := cout P 5) (z := 0) (q := P 10) dX0_changeCords_23 (ch_9 hk) (by omega) (by decide) rfl ?_
    refine v_iload_n F (pc := 24) dX0_changeCords_24 rfl ?_
    refine v_dup2 F (pc := 25) dX0_changeCords_25 rfl rfl ?_
    refine v_iald F (pc := 26) (n := 8) (f := τ 10) (z := (τ 35 (m : Nat)) / 20) dX0_changeCords_26 (ch_10 hk) (by omega) (by decide) ?_
    refine v_aload_n F (pc := 27) dX0_changeCords_27 rfl ?_
    refine v_iload F (pc := 28) dX0_changeCords_28 rfl ?_
    refine v_iload_n F (pc := 30) dX0_changeCords_30 rfl ?_
    refine v_callVp F (pc := 31) (As := [.int (iI (0)), .int (iI (c))]) (rest := [.int (iI ((τ 10) ((τ 35 (m : Nat)) / 20))), .int (iI ((τ 35 (m : Nat)) / 20)), .ref (P 10)]) ci_X0_74 ct_X1_worstWith cs_X1_worstWith (k_X1_worstWith l g hk (τ := τ) (K := K) (r := r) (cp := cp) (b := b) (b' := b') (m := m) hm hmb 0 c (by omega) (by omega)) dX0_changeCords_31 (k0 := 4) rfl rfl (ch_m hk hm) rfl rfl (Nat.le_of_ble_eq_true rfl) (Nat.le_of_ble_eq_true rfl) (Nat.le_of_ble_eq_true rfl) (Nat.le_of_ble_eq_true rfl) (Nat.le_of_ble_eq_true rfl) ?_ (fun _ _ z => z.elim)
    refine v_aload_n F (pc := 34) dX0_changeCords_34 rfl ?_
    refine v_iload F (pc := 35) dX0_changeCords_35 rfl ?_
    refine v_callVp F (pc := 37) (As := [.int (iI (0))]) (rest := [.int (iI (m_pw c 0 (τ 32 m))), .int (iI ((τ 10) ((τ 35 (m : Nat)) / 20))), .int (iI ((τ 35 (m : Nat)) / 20)), .ref (P 10)]) ci_X0_71 ct_X1_worstOn cs_X1_worstOn (k_X1_worstOn l g hk (τ := τ) (K := K) (r := r) (cp := cp) (b := b) (b' := b') (m := m) hm hmb 0 (by omega)) dX0_changeCords_37 (k0 := 4) rfl rfl (ch_m hk hm) rfl rfl (Nat.le_of_ble_eq_true rfl) (Nat.le_of_ble_eq_true rfl) (Nat.le_of_ble_eq_true rfl) (Nat.le_of_ble_eq_true rfl) (Nat.le_of_ble_eq_true rfl) ?_ (fun _ _ z => z.elim)
    refine v_isub F (pc := 40) (a := m_pw c 0 (τ 32 m)) (b := m_pw (τ 34 m) 0 (τ 32 m)) dX0_changeCords_40 ?_
    refine v_iadd F (pc := 41) (a := (τ 10) ((τ 35 (m : Nat)) / 20)) (b := (m_pw c 0 (τ 32 m)) - (m_pw (τ 34 m) 0 (τ 32 m))) dX0_changeCords_41 ?_
    refine v_iast F (pc := 42) (n := 8) (f := τ 10) (z := (τ 35 (m : Nat)) / 20) (x := ((τ 10) ((τ 35 (m : Nat)) / 20)) + ((m_pw c 0 (τ 32 m)) - (m_pw (τ 34 m) 0 (τ 32 m)))) dX0_changeCords_42 (ch_10 hk) (by omega) (by decide)  (h' := cheap g P K r cp b b' (su τ 10 ((τ 35 (m : Nat)) / 20) (((τ 10) ((τ 35 (m : Nat)) / 20)) + ((m_pw c 0 (τ 32 m)) - (m_pw (τ 34 m) 0 (τ 32 m)))))) (cu_10 hk _) ?_
    refine v_iinc F (pc := 43) (lo' := [some (.ref (P 5)), some (.ref m), some (.int (iI (c))), some (.int (iI ((τ 35 (m : Nat)) / 20))), some (.int (iI (1)))]) dX0_changeCords_43 rfl (Nat.le_of_ble_eq_true rfl) rfl ?_
    refine v_goto F (pc := 46) 11 dX0_changeCords_46 (by decide) ?_
    refine v_iload F (pc := 11) dX0_changeCords_11 rfl ?_
    refine v_iconst F (pc := 13) dX0_changeCords_13 ?_
    refine v_icmp_ge F (pc := 14) (a := 1) (b := 2) 49 dX0_changeCords_14 (by decide) (by omega) (by omega) (fun c_2 => ?_) (fun c_2 => ?_)
    · exact absurd c_2 (by decide)
    · refine v_aload_n F (pc := 17) dX0_changeCords_17 rfl ?_
      refine v_getf F (pc := 18) fd_X0_23_3 (v := .ref (P 9)) dX0_changeCords_18 (ch_5 hk) rfl ?_
      refine v_iload F (pc := 21) dX0_changeCords_21 rfl ?_
      refine v_aaldA F (pc := 23) (n := 2) (r := cout P 5) (z := 1) (q := P 11) dX0_changeCords_23 (ch_9 hk) (by omega) (by decide) rfl ?_
      refine v_iload_n F (pc := 24) dX0_changeCords_24 rfl ?_
      refine v_dup2 F (pc := 25) dX0_changeCords_25 rfl rfl ?_
      refine v_iald F (pc := 26) (n := 8) (f := τ 11) (z := (τ 35 (m : Nat)) / 20) dX0_changeCords_26 (ch_11 hk) (by omega) (by decide) ?_
      refine v_aload_n F (pc := 27) dX0_changeCords_27 rfl ?_
      refine v_iload F (pc := 28) dX0_changeCords_28 rfl ?_
      refine v_iload_n F (pc := 30) dX0_changeCords_30 rfl ?_
      refine v_callVp F (pc := 31) (As := [.int (iI (1)), .int (iI (c))]) (rest := [.int (iI ((τ 11) ((τ 35 (m : Nat)) / 20))), .int (iI ((τ 35 (m : Nat)) / 20)), .ref (P 11)]) ci_X0_74 ct_X1_worstWith cs_X1_worstWith (k_X1_worstWith l g hk (τ := su τ 10 ((τ 35 (m : Nat)) / 20) (((τ 10) ((τ 35 (m : Nat)) / 20)) + ((m_pw c 0 (τ 32 m)) - (m_pw (τ 34 m) 0 (τ 32 m))))) (K := K) (r := r) (cp := cp) (b := b) (b' := b') (m := m) hm hmb 1 c (by omega) (by omega)) dX0_changeCords_31 (k0 := 4) rfl rfl (ch_m hk hm) rfl rfl (Nat.le_of_ble_eq_true rfl) (Nat.le_of_ble_eq_true rfl) (Nat.le_of_ble_eq_true rfl) (Nat.le_of_ble_eq_true rfl) (Nat.le_of_ble_eq_true rfl) ?_ (fun _ _ z => z.elim)
      refine v_aload_n F (pc := 34) dX0_changeCords_34 rfl ?_
      refine v_iload F (pc := 35) dX0_changeCords_35 rfl ?_
      refine v_callVp F (pc := 37) (As := [.int (iI (1))]) (rest := [.int (iI (m_pw c 1 (τ 32 m))), .int (iI ((τ 11) ((τ 35 (m : Nat)) / 20))), .int (iI ((τ 35 (m : Nat)) / 20)), .ref (P 11)]) ci_X0_71 ct_X1_worstOn cs_X1_worstOn (k_X1_worstOn l g hk (τ := su τ 10 ((τ 35 (m : Nat)) / 20) (((τ 10) ((τ 35 (m : Nat)) / 20)) + ((m_pw c 0 (τ 32 m)) - (m_pw (τ 34 m) 0 (τ 32 m))))) (K := K) (r := r) (cp := cp) (b := b) (b' := b') (m := m) hm hmb 1 (by omega)) dX0_changeCords_37 (k0 := 4) rfl rfl (ch_m hk hm) rfl rfl (Nat.le_of_ble_eq_true rfl) (Nat.le_of_ble_eq_true rfl) (Nat.le_of_ble_eq_true rfl) (Nat.le_of_ble_eq_true rfl) (Nat.le_of_ble_eq_true rfl) ?_ (fun _ _ z => z.elim)
      refine v_isub F (pc := 40) (a := m_pw c 1 (τ 32 m)) (b := m_pw (τ 34 m) 1 (τ 32 m)) dX0_changeCords_40 ?_
      refine v_iadd F (pc := 41) (a := (τ 11) ((τ 35 (m : Nat)) / 20)) (b := (m_pw c 1 (τ 32 m)) - (m_pw (τ 34 m) 1 (τ 32 m))) dX0_changeCords_41 ?_
      refine v_iast F (pc := 42) (n := 8) (f := τ 11) (z := (τ 35 (m : Nat)) / 20) (x := ((τ 11) ((τ 35 (m : Nat)) / 20)) + ((m_pw c 1 (τ 32 m)) - (m_pw (τ 34 m) 1 (τ 32 m)))) dX0_changeCords_42 (ch_11 hk) (by omega) (by decide)  (h' := cheap g P K r cp b b' (su (su τ 10 ((τ 35 (m : Nat)) / 20) (((τ 10) ((τ 35 (m : Nat)) / 20)) + ((m_pw c 0 (τ 32 m)) - (m_pw (τ 34 m) 0 (τ 32 m))))) 11 ((τ 35 (m : Nat)) / 20) (((τ 11) ((τ 35 (m : Nat)) / 20)) + ((m_pw c 1 (τ 32 m)) - (m_pw (τ 34 m) 1 (τ 32 m)))))) (cu_11 hk _) ?_
      refine v_iinc F (pc := 43) (lo' := [some (.ref (P 5)), some (.ref m), some (.int (iI (c))), some (.int (iI ((τ 35 (m : Nat)) / 20))), some (.int (iI (2)))]) dX0_changeCords_43 rfl (Nat.le_of_ble_eq_true rfl) rfl ?_
      refine v_goto F (pc := 46) 11 dX0_changeCords_46 (by decide) ?_
      refine v_iload F (pc := 11) dX0_changeCords_11 rfl ?_
      refine v_iconst F (pc := 13) dX0_changeCords_13 ?_
      refine v_icmp_ge F (pc := 14) (a := 2) (b := 2) 49 dX0_changeCords_14 (by decide) (by omega) (by omega) (fun c_3 => ?_) (fun c_3 => ?_)
      · refine v_aload_n F (pc := 49) dX0_changeCords_49 rfl ?_
        refine v_iload_n F (pc := 50) dX0_changeCords_50 rfl ?_
        refine v_putf F (pc := 51) fp_X0_78_4 dX0_changeCords_51 (ch_m hk hm) rfl rfl (Nat.le_of_ble_eq_true rfl) (h' := cheap g P K r cp b b' (su (su (su τ 10 ((τ 35 (m : Nat)) / 20) (((τ 10) ((τ 35 (m : Nat)) / 20)) + ((m_pw c 0 (τ 32 m)) - (m_pw (τ 34 m) 0 (τ 32 m))))) 11 ((τ 35 (m : Nat)) / 20) (((τ 11) ((τ 35 (m : Nat)) / 20)) + ((m_pw c 1 (τ 32 m)) - (m_pw (τ 34 m) 1 (τ 32 m))))) 34 m c)) (cu_m4 hk hm c) ?_
        refine v_vret F (pc := 54) dX0_changeCords_54 rfl (Nat.le_of_ble_eq_true rfl) (Nat.le_of_ble_eq_true rfl) ?_
        exact ⟨rfl, rfl⟩
      · exact absurd c_3 (by decide)
-- X0_changeCords
set_option maxRecDepth 100000 in
set_option maxHeartbeats 8000000 in
theorem k_X0_changeCords_12 (l : Launch) (g : gT) {P K : Nat → Nat} {r : Nat → Int → Option Nat} {cp : Nat → Nat} {b b' : Nat} {τ : sT} (hk : cok P K cp) {m : Nat} (hm : K m = 1) (hmb : Mb τ m) (c : Int) (hc : 0 ≤ c ∧ c ≤ 2) (hcl : 0 ≤ τ 35 m) : CM l g yX0_changeCords cX0_changeCords 5 none ({ frames := 4, cells := 0, slots := 0, locals := 84 }) [.ref (P 12), .ref m, .int (iI (c))] (cheap g P K r cp b b' τ) (pV none (cheap g P K r cp b b' (cCC τ 12 m c))) (noX) := by
  refine CM.of (lo := [some (.ref (P 12)), some (.ref m), some (.int (iI (c))), none, none]) (by decide) (Nat.le_of_ble_eq_true rfl) (by simp [Value.category]) rfl ?_
  intro pX eX sX mX bX tX cX AX F htab hmn
  have F : Fx pX l sX mX ([.ref (P 12), .ref m, .int (iI (c))] : List Value).toArray tX cX cX0_changeCords 5 none RX0 g AX := F
  refine v_aload_n F (pc := 0) dX0_changeCords_0 rfl ?_
  refine v_getf F (pc := 1) fd_X0_63_4 (v := .int (iI (τ 35 (m : Nat)))) dX0_changeCords_1 (ch_m hk hm) rfl ?_
  refine v_callNp F (pc := 4) (As := [.int (iI (τ 35 (m : Nat)))]) (rest := []) cn_X0_55 ct_X4_rackOfCell (k_X4_rackOfCell l g (τ 35 (m : Nat)) (by omega)) dX0_changeCords_4 rfl rfl (Nat.le_of_ble_eq_true rfl) (Nat.le_of_ble_eq_true rfl) (Nat.le_of_ble_eq_true rfl) (Nat.le_of_ble_eq_true rfl) (Nat.le_of_ble_eq_true rfl) ?_
  refine v_istore_n F (pc := 7) (lo' := [some (.ref (P 12)), some (.ref m), some (.int (iI (c))), some (.int (iI ((τ 35 (m : Nat)) / 20))), none]) dX0_changeCords_7 (Nat.le_of_ble_eq_true rfl) rfl ?_
  refine v_iconst F (pc := 8) dX0_changeCords_8 ?_
  refine v_istore F (pc := 9) (lo' := [some (.ref (P 12)), some (.ref m), some (.int (iI (c))), some (.int (iI ((τ 35 (m : Nat)) / 20))), some (.int (iI (0)))]) dX0_changeCords_9 (Nat.le_of_ble_eq_true rfl) rfl ?_
  refine v_iload F (pc := 11) dX0_changeCords_11 rfl ?_
  refine v_iconst F (pc := 13) dX0_changeCords_13 ?_
  refine v_icmp_ge F (pc := 14) (a := 0) (b := 2) 49 dX0_changeCords_14 (by decide) (by omega) (by omega) (fun c_1 => ?_) (fun c_1 => ?_)
  · exact absurd c_1 (by decide)
  · refine v_aload_n F (pc := 17) dX0_changeCords_17 rfl ?_
    refine v_getf F (pc := 18) fd_X0_23_3 (v := .ref (P 16)) dX0_changeCords_18 (ch_12 hk) rfl ?_
    refine v_iload F (pc := 21) dX0_changeCords_21 rfl ?_
    refine v_aaldA F (pc := 23) (n := 2) (r := cout P 12) (z := 0) (q := P 17) dX0_changeCords_23 (ch_16 hk) (by omega) (by decide) rfl ?_
    refine v_iload_n F (pc := 24) dX0_changeCords_24 rfl ?_
    refine v_dup2 F (pc := 25) dX0_changeCords_25 rfl rfl ?_
    refine v_iald F (pc := 26) (n := 8) (f := τ 17) (z := (τ 35 (m : Nat)) / 20) dX0_changeCords_26 (ch_17 hk) (by omega) (by decide) ?_
    refine v_aload_n F (pc := 27) dX0_changeCords_27 rfl ?_
    refine v_iload F (pc := 28) dX0_changeCords_28 rfl ?_
    refine v_iload_n F (pc := 30) dX0_changeCords_30 rfl ?_
    refine v_callVp F (pc := 31) (As := [.int (iI (0)), .int (iI (c))]) (rest := [.int (iI ((τ 17) ((τ 35 (m : Nat)) / 20))), .int (iI ((τ 35 (m : Nat)) / 20)), .ref (P 17)]) ci_X0_74 ct_X1_worstWith cs_X1_worstWith (k_X1_worstWith l g hk (τ := τ) (K := K) (r := r) (cp := cp) (b := b) (b' := b') (m := m) hm hmb 0 c (by omega) (by omega)) dX0_changeCords_31 (k0 := 4) rfl rfl (ch_m hk hm) rfl rfl (Nat.le_of_ble_eq_true rfl) (Nat.le_of_ble_eq_true rfl) (Nat.le_of_ble_eq_true rfl) (Nat.le_of_ble_eq_true rfl) (Nat.le_of_ble_eq_true rfl) ?_ (fun _ _ z => z.elim)
    refine v_aload_n F (pc := 34) dX0_changeCords_34 rfl ?_
    refine v_iload F (pc := 35) dX0_changeCords_35 rfl ?_
    refine v_callVp F (pc := 37) (As := [.int (iI (0))]) (rest := [.int (iI (m_pw c 0 (τ 32 m))), .int (iI ((τ 17) ((τ 35 (m : Nat)) / 20))), .int (iI ((τ 35 (m : Nat)) / 20)), .ref (P 17)]) ci_X0_71 ct_X1_worstOn cs_X1_worstOn (k_X1_worstOn l g hk (τ := τ) (K := K) (r := r) (cp := cp) (b := b) (b' := b') (m := m) hm hmb 0 (by omega)) dX0_changeCords_37 (k0 := 4) rfl rfl (ch_m hk hm) rfl rfl (Nat.le_of_ble_eq_true rfl) (Nat.le_of_ble_eq_true rfl) (Nat.le_of_ble_eq_true rfl) (Nat.le_of_ble_eq_true rfl) (Nat.le_of_ble_eq_true rfl) ?_ (fun _ _ z => z.elim)
    refine v_isub F (pc := 40) (a := m_pw c 0 (τ 32 m)) (b := m_pw (τ 34 m) 0 (τ 32 m)) dX0_changeCords_40 ?_
    refine v_iadd F (pc := 41) (a := (τ 17) ((τ 35 (m : Nat)) / 20)) (b := (m_pw c 0 (τ 32 m)) - (m_pw (τ 34 m) 0 (τ 32 m))) dX0_changeCords_41 ?_
    refine v_iast F (pc := 42) (n := 8) (f := τ 17) (z := (τ 35 (m : Nat)) / 20) (x := ((τ 17) ((τ 35 (m : Nat)) / 20)) + ((m_pw c 0 (τ 32 m)) - (m_pw (τ 34 m) 0 (τ 32 m)))) dX0_changeCords_42 (ch_17 hk) (by omega) (by decide)  (h' := cheap g P K r cp b b' (su τ 17 ((τ 35 (m : Nat)) / 20) (((τ 17) ((τ 35 (m : Nat)) / 20)) + ((m_pw c 0 (τ 32 m)) - (m_pw (τ 34 m) 0 (τ 32 m)))))) (cu_17 hk _) ?_
    refine v_iinc F (pc := 43) (lo' := [some (.ref (P 12)), some (.ref m), some (.int (iI (c))), some (.int (iI ((τ 35 (m : Nat)) / 20))), some (.int (iI (1)))]) dX0_changeCords_43 rfl (Nat.le_of_ble_eq_true rfl) rfl ?_
    refine v_goto F (pc := 46) 11 dX0_changeCords_46 (by decide) ?_
    refine v_iload F (pc := 11) dX0_changeCords_11 rfl ?_
    refine v_iconst F (pc := 13) dX0_changeCords_13 ?_
    refine v_icmp_ge F (pc := 14) (a := 1) (b := 2) 49 dX0_changeCords_14 (by decide) (by omega) (by omega) (fun c_2 => ?_) (fun c_2 => ?_)
    · exact absurd c_2 (by decide)
    · refine v_aload_n F (pc := 17) dX0_changeCords_17 rfl ?_
      refine v_getf F (pc := 18) fd_X0_23_3 (v := .ref (P 16)) dX0_changeCords_18 (ch_12 hk) rfl ?_
      refine v_iload F (pc := 21) dX0_changeCords_21 rfl ?_
      refine v_aaldA F (pc := 23) (n := 2) (r := cout P 12) (z := 1) (q := P 18) dX0_changeCords_23 (ch_16 hk) (by omega) (by decide) rfl ?_
      refine v_iload_n F (pc := 24) dX0_changeCords_24 rfl ?_
      refine v_dup2 F (pc := 25) dX0_changeCords_25 rfl rfl ?_
      refine v_iald F (pc := 26) (n := 8) (f := τ 18) (z := (τ 35 (m : Nat)) / 20) dX0_changeCords_26 (ch_18 hk) (by omega) (by decide) ?_
      refine v_aload_n F (pc := 27) dX0_changeCords_27 rfl ?_
      refine v_iload F (pc := 28) dX0_changeCords_28 rfl ?_
      refine v_iload_n F (pc := 30) dX0_changeCords_30 rfl ?_
      refine v_callVp F (pc := 31) (As := [.int (iI (1)), .int (iI (c))]) (rest := [.int (iI ((τ 18) ((τ 35 (m : Nat)) / 20))), .int (iI ((τ 35 (m : Nat)) / 20)), .ref (P 18)]) ci_X0_74 ct_X1_worstWith cs_X1_worstWith (k_X1_worstWith l g hk (τ := su τ 17 ((τ 35 (m : Nat)) / 20) (((τ 17) ((τ 35 (m : Nat)) / 20)) + ((m_pw c 0 (τ 32 m)) - (m_pw (τ 34 m) 0 (τ 32 m))))) (K := K) (r := r) (cp := cp) (b := b) (b' := b') (m := m) hm hmb 1 c (by omega) (by omega)) dX0_changeCords_31 (k0 := 4) rfl rfl (ch_m hk hm) rfl rfl (Nat.le_of_ble_eq_true rfl) (Nat.le_of_ble_eq_true rfl) (Nat.le_of_ble_eq_true rfl) (Nat.le_of_ble_eq_true rfl) (Nat.le_of_ble_eq_true rfl) ?_ (fun _ _ z => z.elim)
      refine v_aload_n F (pc := 34) dX0_changeCords_34 rfl ?_
      refine v_iload F (pc := 35) dX0_changeCords_35 rfl ?_
      refine v_callVp F (pc := 37) (As := [.int (iI (1))]) (rest := [.int (iI (m_pw c 1 (τ 32 m))), .int (iI ((τ 18) ((τ 35 (m : Nat)) / 20))), .int (iI ((τ 35 (m : Nat)) / 20)), .ref (P 18)]) ci_X0_71 ct_X1_worstOn cs_X1_worstOn (k_X1_worstOn l g hk (τ := su τ 17 ((τ 35 (m : Nat)) / 20) (((τ 17) ((τ 35 (m : Nat)) / 20)) + ((m_pw c 0 (τ 32 m)) - (m_pw (τ 34 m) 0 (τ 32 m))))) (K := K) (r := r) (cp := cp) (b := b) (b' := b') (m := m) hm hmb 1 (by omega)) dX0_changeCords_37 (k0 := 4) rfl rfl (ch_m hk hm) rfl rfl (Nat.le_of_ble_eq_true rfl) (Nat.le_of_ble_eq_true rfl) (Nat.le_of_ble_eq_true rfl) (Nat.le_of_ble_eq_true rfl) (Nat.le_of_ble_eq_true rfl) ?_ (fun _ _ z => z.elim)
      refine v_isub F (pc := 40) (a := m_pw c 1 (τ 32 m)) (b := m_pw (τ 34 m) 1 (τ 32 m)) dX0_changeCords_40 ?_
      refine v_iadd F (pc := 41) (a := (τ 18) ((τ 35 (m : Nat)) / 20)) (b := (m_pw c 1 (τ 32 m)) - (m_pw (τ 34 m) 1 (τ 32 m))) dX0_changeCords_41 ?_
      refine v_iast F (pc := 42) (n := 8) (f := τ 18) (z := (τ 35 (m : Nat)) / 20) (x := ((τ 18) ((τ 35 (m : Nat)) / 20)) + ((m_pw c 1 (τ 32 m)) - (m_pw (τ 34 m) 1 (τ 32 m)))) dX0_changeCords_42 (ch_18 hk) (by omega) (by decide)  (h' := cheap g P K r cp b b' (su (su τ 17 ((τ 35 (m : Nat)) / 20) (((τ 17) ((τ 35 (m : Nat)) / 20)) + ((m_pw c 0 (τ 32 m)) - (m_pw (τ 34 m) 0 (τ 32 m))))) 18 ((τ 35 (m : Nat)) / 20) (((τ 18) ((τ 35 (m : Nat)) / 20)) + ((m_pw c 1 (τ 32 m)) - (m_pw (τ 34 m) 1 (τ 32 m)))))) (cu_18 hk _) ?_
      refine v_iinc F (pc := 43) (lo' := [some (.ref (P 12)), some (.ref m), some (.int (iI (c))), some (.int (iI ((τ 35 (m : Nat)) / 20))), some (.int (iI (2)))]) dX0_changeCords_43 rfl (Nat.le_of_ble_eq_true rfl) rfl ?_
      refine v_goto F (pc := 46) 11 dX0_changeCords_46 (by decide) ?_
      refine v_iload F (pc := 11) dX0_changeCords_11 rfl ?_
      refine v_iconst F (pc := 13) dX0_changeCords_13 ?_
      refine v_icmp_ge F (pc := 14) (a := 2) (b := 2) 49 dX0_changeCords_14 (by decide) (by omega) (by omega) (fun c_3 => ?_) (fun c_3 => ?_)
      · refine v_aload_n F (pc := 49) dX0_changeCords_49 rfl ?_
        refine v_iload_n F (pc := 50) dX0_changeCords_50 rfl ?_
        refine v_putf F (pc := 51) fp_X0_78_4 dX0_changeCords_51 (ch_m hk hm) rfl rfl (Nat.le_of_ble_eq_true rfl) (h' := cheap g P K r cp b b' (su (su (su τ 17 ((τ 35 (m : Nat)) / 20) (((τ 17) ((τ 35 (m : Nat)) / 20)) + ((m_pw c 0 (τ 32 m)) - (m_pw (τ 34 m) 0 (τ 32 m))))) 18 ((τ 35 (m : Nat)) / 20) (((τ 18) ((τ 35 (m : Nat)) / 20)) + ((m_pw c 1 (τ 32 m)) - (m_pw (τ 34 m) 1 (τ 32 m))))) 34 m c)) (cu_m4 hk hm c) ?_
        refine v_vret F (pc := 54) dX0_changeCords_54 rfl (Nat.le_of_ble_eq_true rfl) (Nat.le_of_ble_eq_true rfl) ?_
        exact ⟨rfl, rfl⟩
      · exact absurd c_3 (by decide)
theorem k_X0_changeCords (l : Launch) (g : gT) {w : Nat} (hw : w = 5 ∨ w = 12) {P K : Nat → Nat} {r : Nat → Int → Option Nat} {cp : Nat → Nat} {b b' : Nat} {τ : sT} (hk : cok P K cp) {m : Nat} (hm : K m = 1) (hmb : Mb τ m) (c : Int) (hc : 0 ≤ c ∧ c ≤ 2) (hcl : 0 ≤ τ 35 m) : CM l g yX0_changeCords cX0_changeCords 5 none { frames := 4, cells := 0, slots := 0, locals := 84 } [.ref (P w), .ref m, .int (iI (c))] (cheap g P K r cp b b' τ) (pV none (cheap g P K r cp b b' (cCC τ w m c))) (noX) := by
  rcases hw with rfl | rfl
  · exact k_X0_changeCords_5 l g hk hm hmb c hc hcl
  · exact k_X0_changeCords_12 l g hk hm hmb c hc hcl
-- X0_clearAll
set_option maxRecDepth 100000 in
set_option maxHeartbeats 8000000 in
theorem k_X0_clearAll_5 (l : Launch) (g : gT) {P K : Nat → Nat} {r : Nat → Int → Option Nat} {cp : Nat → Nat} {b b' : Nat} {τ : sT} (hk : cok P K cp) : CM l g yX0_clearAll cX0_clearAll 2 none ({ frames := 2, cells := 0, slots := 0, locals := 43 }) [.ref (P 5)] (cheap g P K r cp b b' τ) (pV none (cheap g P K r cp b b' (cClA τ 5))) (noX) := by
  refine CM.of (lo := [some (.ref (P 5)), none]) (by decide) (Nat.le_of_ble_eq_true rfl) (by simp [Value.category]) rfl ?_
  intro pX eX sX mX bX tX cX AX F htab hmn
  have F : Fx pX l sX mX ([.ref (P 5)] : List Value).toArray tX cX cX0_clearAll 2 none RX0 g AX := F
  refine v_aload_n F (pc := 0) dX0_clearAll_0 rfl ?_
  refine v_getf F (pc := 1) fd_X0_9_3 (v := .ref (P 6)) dX0_clearAll_1 (ch_5 hk) rfl ?_
  refine v_iconst F (pc := 4) dX0_clearAll_4 ?_
  refine v_callSn F (pc := 5) (As := [.ref (P 6), .int (iI (-1))]) (rest := []) ci_X0_30 ct_J7_fill_53178 (kl_fill l g (ch_6 hk) (by decide) (-1) (cu_6 hk _)) dX0_clearAll_5 rfl rfl (Nat.le_of_ble_eq_true rfl) (Nat.le_of_ble_eq_true rfl) (Nat.le_of_ble_eq_true rfl) (Nat.le_of_ble_eq_true rfl) (Nat.le_of_ble_eq_true rfl) ?_ (fun _ _ z => z.elim)
  refine v_aload_n F (pc := 8) dX0_clearAll_8 rfl ?_
  refine v_getf F (pc := 9) fd_X0_15_3 (v := .ref (P 7)) dX0_clearAll_9 (ch_5 hk) rfl ?_
  refine v_iconst F (pc := 12) dX0_clearAll_12 ?_
  refine v_callSn F (pc := 13) (As := [.ref (P 7), .int (iI (0))]) (rest := []) ci_X0_30 ct_J7_fill_53178 (kl_fill l g (ch_7 hk) (by decide) 0 (cu_7 hk _)) dX0_clearAll_13 rfl rfl (Nat.le_of_ble_eq_true rfl) (Nat.le_of_ble_eq_true rfl) (Nat.le_of_ble_eq_true rfl) (Nat.le_of_ble_eq_true rfl) (Nat.le_of_ble_eq_true rfl) ?_ (fun _ _ z => z.elim)
  refine v_aload_n F (pc := 16) dX0_clearAll_16 rfl ?_
  refine v_getf F (pc := 17) fd_X0_18_3 (v := .ref (P 8)) dX0_clearAll_17 (ch_5 hk) rfl ?_
  refine v_iconst F (pc := 20) dX0_clearAll_20 ?_
  refine v_callSn F (pc := 21) (As := [.ref (P 8), .int (iI (0))]) (rest := []) ci_X0_30 ct_J7_fill_53178 (kl_fill l g (ch_8 hk) (by decide) 0 (cu_8 hk _)) dX0_clearAll_21 rfl rfl (Nat.le_of_ble_eq_true rfl) (Nat.le_of_ble_eq_true rfl) (Nat.le_of_ble_eq_true rfl) (Nat.le_of_ble_eq_true rfl) (Nat.le_of_ble_eq_true rfl) ?_ (fun _ _ z => z.elim)
  refine v_iconst F (pc := 24) dX0_clearAll_24 ?_
  refine v_istore_n F (pc := 25) (lo' := [some (.ref (P 5)), some (.int (iI (0)))]) dX0_clearAll_25 (Nat.le_of_ble_eq_true rfl) rfl ?_
  refine v_iload_n F (pc := 26) dX0_clearAll_26 rfl ?_
  refine v_iconst F (pc := 27) dX0_clearAll_27 ?_
  refine v_icmp_ge F (pc := 28) (a := 0) (b := 2) 47 dX0_clearAll_28 (by decide) (by omega) (by omega) (fun c_1 => ?_) (fun c_1 => ?_)
  · exact absurd c_1 (by decide)
  · refine v_aload_n F (pc := 31) dX0_clearAll_31 rfl ?_
    refine v_getf F (pc := 32) fd_X0_23_3 (v := .ref (P 9)) dX0_clearAll_32 (ch_5 hk) rfl ?_
    refine v_iload_n F (pc := 35) dX0_clearAll_35 rfl ?_
    refine v_aaldA F (pc := 36) (n := 2) (r := cout P 5) (z := 0) (q := P 10) dX0_clearAll_36 (ch_9 hk) (by omega) (by decide) rfl ?_
    refine v_iconst F (pc := 37) dX0_clearAll_37 ?_
    refine v_callSn F (pc := 38) (As := [.ref (P 10), .int (iI (0))]) (rest := []) ci_X0_30 ct_J7_fill_53178 (kl_fill l g (ch_10 hk) (by decide) 0 (cu_10 hk _)) dX0_clearAll_38 rfl rfl (Nat.le_of_ble_eq_true rfl) (Nat.le_of_ble_eq_true rfl) (Nat.le_of_ble_eq_true rfl) (Nat.le_of_ble_eq_true rfl) (Nat.le_of_ble_eq_true rfl) ?_ (fun _ _ z => z.elim)
    refine v_iinc F (pc := 41) (lo' := [some (.ref (P 5)), some (.int (iI (1)))]) dX0_clearAll_41 rfl (Nat.le_of_ble_eq_true rfl) rfl ?_
    refine v_goto F (pc := 44) 26 dX0_clearAll_44 (by decide) ?_
    refine v_iload_n F (pc := 26) dX0_clearAll_26 rfl ?_
    refine v_iconst F (pc := 27) dX0_clearAll_27 ?_
    refine v_icmp_ge F (pc := 28) (a := 1) (b := 2) 47 dX0_clearAll_28 (by decide) (by omega) (by omega) (fun c_2 => ?_) (fun c_2 => ?_)
    · exact absurd c_2 (by decide)
    · refine v_aload_n F (pc := 31) dX0_clearAll_31 rfl ?_
      refine v_getf F (pc := 32) fd_X0_23_3 (v := .ref (P 9)) dX0_clearAll_32 (ch_5 hk) rfl ?_
      refine v_iload_n F (pc := 35) dX0_clearAll_35 rfl ?_
      refine v_aaldA F (pc := 36) (n := 2) (r := cout P 5) (z := 1) (q := P 11) dX0_clearAll_36 (ch_9 hk) (by omega) (by decide) rfl ?_
      refine v_iconst F (pc := 37) dX0_clearAll_37 ?_
      refine v_callSn F (pc := 38) (As := [.ref (P 11), .int (iI (0))]) (rest := []) ci_X0_30 ct_J7_fill_53178 (kl_fill l g (ch_11 hk) (by decide) 0 (cu_11 hk _)) dX0_clearAll_38 rfl rfl (Nat.le_of_ble_eq_true rfl) (Nat.le_of_ble_eq_true rfl) (Nat.le_of_ble_eq_true rfl) (Nat.le_of_ble_eq_true rfl) (Nat.le_of_ble_eq_true rfl) ?_ (fun _ _ z => z.elim)
      refine v_iinc F (pc := 41) (lo' := [some (.ref (P 5)), some (.int (iI (2)))]) dX0_clearAll_41 rfl (Nat.le_of_ble_eq_true rfl) rfl ?_
      refine v_goto F (pc := 44) 26 dX0_clearAll_44 (by decide) ?_
      refine v_iload_n F (pc := 26) dX0_clearAll_26 rfl ?_
      refine v_iconst F (pc := 27) dX0_clearAll_27 ?_
      refine v_icmp_ge F (pc := 28) (a := 2) (b := 2) 47 dX0_clearAll_28 (by decide) (by omega) (by omega) (fun c_3 => ?_) (fun c_3 => ?_)
      · refine v_vret F (pc := 47) dX0_clearAll_47 rfl (Nat.le_of_ble_eq_true rfl) (Nat.le_of_ble_eq_true rfl) ?_
        exact ⟨rfl, rfl⟩
      · exact absurd c_3 (by decide)
-- X0_clearAll
set_option maxRecDepth 100000 in
set_option maxHeartbeats 8000000 in
theorem k_X0_clearAll_12 (l : Launch) (g : gT) {P K : Nat → Nat} {r : Nat → Int → Option Nat} {cp : Nat → Nat} {b b' : Nat} {τ : sT} (hk : cok P K cp) : CM l g yX0_clearAll cX0_clearAll 2 none ({ frames := 2, cells := 0, slots := 0, locals := 43 }) [.ref (P 12)] (cheap g P K r cp b b' τ) (pV none (cheap g P K r cp b b' (cClA τ 12))) (noX) := by
  refine CM.of (lo := [some (.ref (P 12)), none]) (by decide) (Nat.le_of_ble_eq_true rfl) (by simp [Value.category]) rfl ?_
  intro pX eX sX mX bX tX cX AX F htab hmn
  have F : Fx pX l sX mX ([.ref (P 12)] : List Value).toArray tX cX cX0_clearAll 2 none RX0 g AX := F
  refine v_aload_n F (pc := 0) dX0_clearAll_0 rfl ?_
  refine v_getf F (pc := 1) fd_X0_9_3 (v := .ref (P 13)) dX0_clearAll_1 (ch_12 hk) rfl ?_
  refine v_iconst F (pc := 4) dX0_clearAll_4 ?_
  refine v_callSn F (pc := 5) (As := [.ref (P 13), .int (iI (-1))]) (rest := []) ci_X0_30 ct_J7_fill_53178 (kl_fill l g (ch_13 hk) (by decide) (-1) (cu_13 hk _)) dX0_clearAll_5 rfl rfl (Nat.le_of_ble_eq_true rfl) (Nat.le_of_ble_eq_true rfl) (Nat.le_of_ble_eq_true rfl) (Nat.le_of_ble_eq_true rfl) (Nat.le_of_ble_eq_true rfl) ?_ (fun _ _ z => z.elim)
  refine v_aload_n F (pc := 8) dX0_clearAll_8 rfl ?_
  refine v_getf F (pc := 9) fd_X0_15_3 (v := .ref (P 14)) dX0_clearAll_9 (ch_12 hk) rfl ?_
  refine v_iconst F (pc := 12) dX0_clearAll_12 ?_
  refine v_callSn F (pc := 13) (As := [.ref (P 14), .int (iI (0))]) (rest := []) ci_X0_30 ct_J7_fill_53178 (kl_fill l g (ch_14 hk) (by decide) 0 (cu_14 hk _)) dX0_clearAll_13 rfl rfl (Nat.le_of_ble_eq_true rfl) (Nat.le_of_ble_eq_true rfl) (Nat.le_of_ble_eq_true rfl) (Nat.le_of_ble_eq_true rfl) (Nat.le_of_ble_eq_true rfl) ?_ (fun _ _ z => z.elim)
  refine v_aload_n F (pc := 16) dX0_clearAll_16 rfl ?_
  refine v_getf F (pc := 17) fd_X0_18_3 (v := .ref (P 15)) dX0_clearAll_17 (ch_12 hk) rfl ?_
  refine v_iconst F (pc := 20) dX0_clearAll_20 ?_
  refine v_callSn F (pc := 21) (As := [.ref (P 15), .int (iI (0))]) (rest := []) ci_X0_30 ct_J7_fill_53178 (kl_fill l g (ch_15 hk) (by decide) 0 (cu_15 hk _)) dX0_clearAll_21 rfl rfl (Nat.le_of_ble_eq_true rfl) (Nat.le_of_ble_eq_true rfl) (Nat.le_of_ble_eq_true rfl) (Nat.le_of_ble_eq_true rfl) (Nat.le_of_ble_eq_true rfl) ?_ (fun _ _ z => z.elim)
  refine v_iconst F (pc := 24) dX0_clearAll_24 ?_
  refine v_istore_n F (pc := 25) (lo' := [some (.ref (P 12)), some (.int (iI (0)))]) dX0_clearAll_25 (Nat.le_of_ble_eq_true rfl) rfl ?_
  refine v_iload_n F (pc := 26) dX0_clearAll_26 rfl ?_
  refine v_iconst F (pc := 27) dX0_clearAll_27 ?_
  refine v_icmp_ge F (pc := 28) (a := 0) (b := 2) 47 dX0_clearAll_28 (by decide) (by omega) (by omega) (fun c_1 => ?_) (fun c_1 => ?_)
  · exact absurd c_1 (by decide)
  · refine v_aload_n F (pc := 31) dX0_clearAll_31 rfl ?_
    refine v_getf F (pc := 32) fd_X0_23_3 (v := .ref (P 16)) dX0_clearAll_32 (ch_12 hk) rfl ?_
    refine v_iload_n F (pc := 35) dX0_clearAll_35 rfl ?_
    refine v_aaldA F (pc := 36) (n := 2) (r := cout P 12) (z := 0) (q := P 17) dX0_clearAll_36 (ch_16 hk) (by omega) (by decide) rfl ?_
    refine v_iconst F (pc := 37) dX0_clearAll_37 ?_
    refine v_callSn F (pc := 38) (As := [.ref (P 17), .int (iI (0))]) (rest := []) ci_X0_30 ct_J7_fill_53178 (kl_fill l g (ch_17 hk) (by decide) 0 (cu_17 hk _)) dX0_clearAll_38 rfl rfl (Nat.le_of_ble_eq_true rfl) (Nat.le_of_ble_eq_true rfl) (Nat.le_of_ble_eq_true rfl) (Nat.le_of_ble_eq_true rfl) (Nat.le_of_ble_eq_true rfl) ?_ (fun _ _ z => z.elim)
    refine v_iinc F (pc := 41) (lo' := [some (.ref (P 12)), some (.int (iI (1)))]) dX0_clearAll_41 rfl (Nat.le_of_ble_eq_true rfl) rfl ?_
    refine v_goto F (pc := 44) 26 dX0_clearAll_44 (by decide) ?_
    refine v_iload_n F (pc := 26) dX0_clearAll_26 rfl ?_
    refine v_iconst F (pc := 27) dX0_clearAll_27 ?_
    refine v_icmp_ge F (pc := 28) (a := 1) (b := 2) 47 dX0_clearAll_28 (by decide) (by omega) (by omega) (fun c_2 => ?_) (fun c_2 => ?_)
    · exact absurd c_2 (by decide)
    · refine v_aload_n F (pc := 31) dX0_clearAll_31 rfl ?_
      refine v_getf F (pc := 32) fd_X0_23_3 (v := .ref (P 16)) dX0_clearAll_32 (ch_12 hk) rfl ?_
      refine v_iload_n F (pc := 35) dX0_clearAll_35 rfl ?_
      refine v_aaldA F (pc := 36) (n := 2) (r := cout P 12) (z := 1) (q := P 18) dX0_clearAll_36 (ch_16 hk) (by omega) (by decide) rfl ?_
      refine v_iconst F (pc := 37) dX0_clearAll_37 ?_
      refine v_callSn F (pc := 38) (As := [.ref (P 18), .int (iI (0))]) (rest := []) ci_X0_30 ct_J7_fill_53178 (kl_fill l g (ch_18 hk) (by decide) 0 (cu_18 hk _)) dX0_clearAll_38 rfl rfl (Nat.le_of_ble_eq_true rfl) (Nat.le_of_ble_eq_true rfl) (Nat.le_of_ble_eq_true rfl) (Nat.le_of_ble_eq_true rfl) (Nat.le_of_ble_eq_true rfl) ?_ (fun _ _ z => z.elim)
      refine v_iinc F (pc := 41) (lo' := [some (.ref (P 12)), some (.int (iI (2)))]) dX0_clearAll_41 rfl (Nat.le_of_ble_eq_true rfl) rfl ?_
      refine v_goto F (pc := 44) 26 dX0_clearAll_44 (by decide) ?_
      refine v_iload_n F (pc := 26) dX0_clearAll_26 rfl ?_
      refine v_iconst F (pc := 27) dX0_clearAll_27 ?_
      refine v_icmp_ge F (pc := 28) (a := 2) (b := 2) 47 dX0_clearAll_28 (by decide) (by omega) (by omega) (fun c_3 => ?_) (fun c_3 => ?_)
      · refine v_vret F (pc := 47) dX0_clearAll_47 rfl (Nat.le_of_ble_eq_true rfl) (Nat.le_of_ble_eq_true rfl) ?_
        exact ⟨rfl, rfl⟩
      · exact absurd c_3 (by decide)
theorem k_X0_clearAll (l : Launch) (g : gT) {w : Nat} (hw : w = 5 ∨ w = 12) {P K : Nat → Nat} {r : Nat → Int → Option Nat} {cp : Nat → Nat} {b b' : Nat} {τ : sT} (hk : cok P K cp) : CM l g yX0_clearAll cX0_clearAll 2 none { frames := 2, cells := 0, slots := 0, locals := 43 } [.ref (P w)] (cheap g P K r cp b b' τ) (pV none (cheap g P K r cp b b' (cClA τ w))) (noX) := by
  rcases hw with rfl | rfl
  · exact k_X0_clearAll_5 l g hk
  · exact k_X0_clearAll_12 l g hk
-- X0_copyFrom
set_option maxRecDepth 100000 in
set_option maxHeartbeats 8000000 in
theorem k_X0_copyFrom_5 (l : Launch) (g : gT) {P K : Nat → Nat} {r : Nat → Int → Option Nat} {cp : Nat → Nat} {b b' : Nat} {τ : sT} (hk : cok P K cp) : CM l g yX0_copyFrom cX0_copyFrom 3 none ({ frames := 2, cells := 0, slots := 0, locals := 60 }) [.ref (P 5), .ref (P 12)] (cheap g P K r cp b b' τ) (pV none (cheap g P K r cp b b' (cCpA τ 5 12))) (noX) := by
  refine CM.of (lo := [some (.ref (P 5)), some (.ref (P 12)), none]) (by decide) (Nat.le_of_ble_eq_true rfl) (by simp [Value.category]) rfl ?_
  intro pX eX sX mX bX tX cX AX F htab hmn
  have F : Fx pX l sX mX ([.ref (P 5), .ref (P 12)] : List Value).toArray tX cX cX0_copyFrom 3 none RX0 g AX := F
  refine v_aload_n F (pc := 0) dX0_copyFrom_0 rfl ?_
  refine v_getf F (pc := 1) fd_X0_9_3 (v := .ref (P 13)) dX0_copyFrom_1 (ch_12 hk) rfl ?_
  refine v_iconst F (pc := 4) dX0_copyFrom_4 ?_
  refine v_aload_n F (pc := 5) dX0_copyFrom_5 rfl ?_
  refine v_getf F (pc := 6) fd_X0_9_3 (v := .ref (P 6)) dX0_copyFrom_6 (ch_5 hk) rfl ?_
  refine v_iconst F (pc := 9) dX0_copyFrom_9 ?_
  refine v_sipush F (pc := 10) dX0_copyFrom_10 (by decide) ?_
  refine v_copyi F (pc := 13) (n0 := 160) (n1 := 160) (f := τ 13) (f1 := τ 6) (sp := 0) (dp := 0) (n := 160) jw_ac_X0_36 jw_nat jw_stat jw_ini dX0_copyFrom_13 (ch_13 hk) (ch_6 hk) (by omega) (by omega) (by omega) (by omega) (by omega) (by omega) (by omega) (Nat.le_of_ble_eq_true rfl) (Nat.le_of_ble_eq_true rfl) (h' := cheap g P K r cp b b' (sf τ 6 (icpI (τ 13) (τ 6) 0 0 160))) (cu_6 hk _) ?_
  refine v_aload_n F (pc := 16) dX0_copyFrom_16 rfl ?_
  refine v_getf F (pc := 17) fd_X0_15_3 (v := .ref (P 14)) dX0_copyFrom_17 (ch_12 hk) rfl ?_
  refine v_iconst F (pc := 20) dX0_copyFrom_20 ?_
  refine v_aload_n F (pc := 21) dX0_copyFrom_21 rfl ?_
  refine v_getf F (pc := 22) fd_X0_15_3 (v := .ref (P 7)) dX0_copyFrom_22 (ch_5 hk) rfl ?_
  refine v_iconst F (pc := 25) dX0_copyFrom_25 ?_
  refine v_bipush F (pc := 26) dX0_copyFrom_26 (by decide) ?_
  refine v_copyi F (pc := 28) (n0 := 8) (n1 := 8) (f := τ 14) (f1 := τ 7) (sp := 0) (dp := 0) (n := 8) jw_ac_X0_36 jw_nat jw_stat jw_ini dX0_copyFrom_28 (ch_14 hk) (ch_7 hk) (by omega) (by omega) (by omega) (by omega) (by omega) (by omega) (by omega) (Nat.le_of_ble_eq_true rfl) (Nat.le_of_ble_eq_true rfl) (h' := cheap g P K r cp b b' (sf (sf τ 6 (icpI (τ 13) (τ 6) 0 0 160)) 7 (icpI (τ 14) (τ 7) 0 0 8))) (cu_7 hk _) ?_
  refine v_aload_n F (pc := 31) dX0_copyFrom_31 rfl ?_
  refine v_getf F (pc := 32) fd_X0_18_3 (v := .ref (P 15)) dX0_copyFrom_32 (ch_12 hk) rfl ?_
  refine v_iconst F (pc := 35) dX0_copyFrom_35 ?_
  refine v_aload_n F (pc := 36) dX0_copyFrom_36 rfl ?_
  refine v_getf F (pc := 37) fd_X0_18_3 (v := .ref (P 8)) dX0_copyFrom_37 (ch_5 hk) rfl ?_
  refine v_iconst F (pc := 40) dX0_copyFrom_40 ?_
  refine v_bipush F (pc := 41) dX0_copyFrom_41 (by decide) ?_
  refine v_copyi F (pc := 43) (n0 := 8) (n1 := 8) (f := τ 15) (f1 := τ 8) (sp := 0) (dp := 0) (n := 8) jw_ac_X0_36 jw_nat jw_stat jw_ini dX0_copyFrom_43 (ch_15 hk) (ch_8 hk) (by omega) (by omega) (by omega) (by omega) (by omega) (by omega) (by omega) (Nat.le_of_ble_eq_true rfl) (Nat.le_of_ble_eq_true rfl) (h' := cheap g P K r cp b b' (sf (sf (sf τ 6 (icpI (τ 13) (τ 6) 0 0 160)) 7 (icpI (τ 14) (τ 7) 0 0 8)) 8 (icpI (τ 15) (τ 8) 0 0 8))) (cu_8 hk _) ?_
  refine v_iconst F (pc := 46) dX0_copyFrom_46 ?_
  refine v_istore_n F (pc := 47) (lo' := [some (.ref (P 5)), some (.ref (P 12)), some (.int (iI (0)))]) dX0_copyFrom_47 (Nat.le_of_ble_eq_true rfl) rfl ?_
  refine v_iload_n F (pc := 48) dX0_copyFrom_48 rfl ?_
  refine v_iconst F (pc := 49) dX0_copyFrom_49 ?_
  refine v_icmp_ge F (pc := 50) (a := 0) (b := 2) 78 dX0_copyFrom_50 (by decide) (by omega) (by omega) (fun c_1 => ?_) (fun c_1 => ?_)
  · exact absurd c_1 (by decide)
  · refine v_aload_n F (pc := 53) dX0_copyFrom_53 rfl ?_
    refine v_getf F (pc := 54) fd_X0_23_3 (v := .ref (P 16)) dX0_copyFrom_54 (ch_12 hk) rfl ?_
    refine v_iload_n F (pc := 57) dX0_copyFrom_57 rfl ?_
    refine v_aaldA F (pc := 58) (n := 2) (r := cout P 12) (z := 0) (q := P 17) dX0_copyFrom_58 (ch_16 hk) (by omega) (by decide) rfl ?_
    refine v_iconst F (pc := 59) dX0_copyFrom_59 ?_
    refine v_aload_n F (pc := 60) dX0_copyFrom_60 rfl ?_
    refine v_getf F (pc := 61) fd_X0_23_3 (v := .ref (P 9)) dX0_copyFrom_61 (ch_5 hk) rfl ?_
    refine v_iload_n F (pc := 64) dX0_copyFrom_64 rfl ?_
    refine v_aaldA F (pc := 65) (n := 2) (r := cout P 5) (z := 0) (q := P 10) dX0_copyFrom_65 (ch_9 hk) (by omega) (by decide) rfl ?_
    refine v_iconst F (pc := 66) dX0_copyFrom_66 ?_
    refine v_bipush F (pc := 67) dX0_copyFrom_67 (by decide) ?_
    refine v_copyi F (pc := 69) (n0 := 8) (n1 := 8) (f := τ 17) (f1 := τ 10) (sp := 0) (dp := 0) (n := 8) jw_ac_X0_36 jw_nat jw_stat jw_ini dX0_copyFrom_69 (ch_17 hk) (ch_10 hk) (by omega) (by omega) (by omega) (by omega) (by omega) (by omega) (by omega) (Nat.le_of_ble_eq_true rfl) (Nat.le_of_ble_eq_true rfl) (h' := cheap g P K r cp b b' (sf (sf (sf (sf τ 6 (icpI (τ 13) (τ 6) 0 0 160)) 7 (icpI (τ 14) (τ 7) 0 0 8)) 8 (icpI (τ 15) (τ 8) 0 0 8)) 10 (icpI (τ 17) (τ 10) 0 0 8))) (cu_10 hk _) ?_
    refine v_iinc F (pc := 72) (lo' := [some (.ref (P 5)), some (.ref (P 12)), some (.int (iI (1)))]) dX0_copyFrom_72 rfl (Nat.le_of_ble_eq_true rfl) rfl ?_
    refine v_goto F (pc := 75) 48 dX0_copyFrom_75 (by decide) ?_
    refine v_iload_n F (pc := 48) dX0_copyFrom_48 rfl ?_
    refine v_iconst F (pc := 49) dX0_copyFrom_49 ?_
    refine v_icmp_ge F (pc := 50) (a := 1) (b := 2) 78 dX0_copyFrom_50 (by decide) (by omega) (by omega) (fun c_2 => ?_) (fun c_2 => ?_)
    · exact absurd c_2 (by decide)
    · refine v_aload_n F (pc := 53) dX0_copyFrom_53 rfl ?_
      refine v_getf F (pc := 54) fd_X0_23_3 (v := .ref (P 16)) dX0_copyFrom_54 (ch_12 hk) rfl ?_
      refine v_iload_n F (pc := 57) dX0_copyFrom_57 rfl ?_
      refine v_aaldA F (pc := 58) (n := 2) (r := cout P 12) (z := 1) (q := P 18) dX0_copyFrom_58 (ch_16 hk) (by omega) (by decide) rfl ?_
      refine v_iconst F (pc := 59) dX0_copyFrom_59 ?_
      refine v_aload_n F (pc := 60) dX0_copyFrom_60 rfl ?_
      refine v_getf F (pc := 61) fd_X0_23_3 (v := .ref (P 9)) dX0_copyFrom_61 (ch_5 hk) rfl ?_
      refine v_iload_n F (pc := 64) dX0_copyFrom_64 rfl ?_
      refine v_aaldA F (pc := 65) (n := 2) (r := cout P 5) (z := 1) (q := P 11) dX0_copyFrom_65 (ch_9 hk) (by omega) (by decide) rfl ?_
      refine v_iconst F (pc := 66) dX0_copyFrom_66 ?_
      refine v_bipush F (pc := 67) dX0_copyFrom_67 (by decide) ?_
      refine v_copyi F (pc := 69) (n0 := 8) (n1 := 8) (f := τ 18) (f1 := τ 11) (sp := 0) (dp := 0) (n := 8) jw_ac_X0_36 jw_nat jw_stat jw_ini dX0_copyFrom_69 (ch_18 hk) (ch_11 hk) (by omega) (by omega) (by omega) (by omega) (by omega) (by omega) (by omega) (Nat.le_of_ble_eq_true rfl) (Nat.le_of_ble_eq_true rfl) (h' := cheap g P K r cp b b' (sf (sf (sf (sf (sf τ 6 (icpI (τ 13) (τ 6) 0 0 160)) 7 (icpI (τ 14) (τ 7) 0 0 8)) 8 (icpI (τ 15) (τ 8) 0 0 8)) 10 (icpI (τ 17) (τ 10) 0 0 8)) 11 (icpI (τ 18) (τ 11) 0 0 8))) (cu_11 hk _) ?_
      refine v_iinc F (pc := 72) (lo' := [some (.ref (P 5)), some (.ref (P 12)), some (.int (iI (2)))]) dX0_copyFrom_72 rfl (Nat.le_of_ble_eq_true rfl) rfl ?_
      refine v_goto F (pc := 75) 48 dX0_copyFrom_75 (by decide) ?_
      refine v_iload_n F (pc := 48) dX0_copyFrom_48 rfl ?_
      refine v_iconst F (pc := 49) dX0_copyFrom_49 ?_
      refine v_icmp_ge F (pc := 50) (a := 2) (b := 2) 78 dX0_copyFrom_50 (by decide) (by omega) (by omega) (fun c_3 => ?_) (fun c_3 => ?_)
      · refine v_vret F (pc := 78) dX0_copyFrom_78 rfl (Nat.le_of_ble_eq_true rfl) (Nat.le_of_ble_eq_true rfl) ?_
        exact ⟨rfl, rfl⟩
      · exact absurd c_3 (by decide)
-- X0_copyFrom
set_option maxRecDepth 100000 in
set_option maxHeartbeats 8000000 in
theorem k_X0_copyFrom_12 (l : Launch) (g : gT) {P K : Nat → Nat} {r : Nat → Int → Option Nat} {cp : Nat → Nat} {b b' : Nat} {τ : sT} (hk : cok P K cp) : CM l g yX0_copyFrom cX0_copyFrom 3 none ({ frames := 2, cells := 0, slots := 0, locals := 60 }) [.ref (P 12), .ref (P 5)] (cheap g P K r cp b b' τ) (pV none (cheap g P K r cp b b' (cCpA τ 12 5))) (noX) := by
  refine CM.of (lo := [some (.ref (P 12)), some (.ref (P 5)), none]) (by decide) (Nat.le_of_ble_eq_true rfl) (by simp [Value.category]) rfl ?_
  intro pX eX sX mX bX tX cX AX F htab hmn
  have F : Fx pX l sX mX ([.ref (P 12), .ref (P 5)] : List Value).toArray tX cX cX0_copyFrom 3 none RX0 g AX := F
  refine v_aload_n F (pc := 0) dX0_copyFrom_0 rfl ?_
  refine v_getf F (pc := 1) fd_X0_9_3 (v := .ref (P 6)) dX0_copyFrom_1 (ch_5 hk) rfl ?_
  refine v_iconst F (pc := 4) dX0_copyFrom_4 ?_
  refine v_aload_n F (pc := 5) dX0_copyFrom_5 rfl ?_
  refine v_getf F (pc := 6) fd_X0_9_3 (v := .ref (P 13)) dX0_copyFrom_6 (ch_12 hk) rfl ?_
  refine v_iconst F (pc := 9) dX0_copyFrom_9 ?_
  refine v_sipush F (pc := 10) dX0_copyFrom_10 (by decide) ?_
  refine v_copyi F (pc := 13) (n0 := 160) (n1 := 160) (f := τ 6) (f1 := τ 13) (sp := 0) (dp := 0) (n := 160) jw_ac_X0_36 jw_nat jw_stat jw_ini dX0_copyFrom_13 (ch_6 hk) (ch_13 hk) (by omega) (by omega) (by omega) (by omega) (by omega) (by omega) (by omega) (Nat.le_of_ble_eq_true rfl) (Nat.le_of_ble_eq_true rfl) (h' := cheap g P K r cp b b' (sf τ 13 (icpI (τ 6) (τ 13) 0 0 160))) (cu_13 hk _) ?_
  refine v_aload_n F (pc := 16) dX0_copyFrom_16 rfl ?_
  refine v_getf F (pc := 17) fd_X0_15_3 (v := .ref (P 7)) dX0_copyFrom_17 (ch_5 hk) rfl ?_
  refine v_iconst F (pc := 20) dX0_copyFrom_20 ?_
  refine v_aload_n F (pc := 21) dX0_copyFrom_21 rfl ?_
  refine v_getf F (pc := 22) fd_X0_15_3 (v := .ref (P 14)) dX0_copyFrom_22 (ch_12 hk) rfl ?_
  refine v_iconst F (pc := 25) dX0_copyFrom_25 ?_
  refine v_bipush F (pc := 26) dX0_copyFrom_26 (by decide) ?_
  refine v_copyi F (pc := 28) (n0 := 8) (n1 := 8) (f := τ 7) (f1 := τ 14) (sp := 0) (dp := 0) (n := 8) jw_ac_X0_36 jw_nat jw_stat jw_ini dX0_copyFrom_28 (ch_7 hk) (ch_14 hk) (by omega) (by omega) (by omega) (by omega) (by omega) (by omega) (by omega) (Nat.le_of_ble_eq_true rfl) (Nat.le_of_ble_eq_true rfl) (h' := cheap g P K r cp b b' (sf (sf τ 13 (icpI (τ 6) (τ 13) 0 0 160)) 14 (icpI (τ 7) (τ 14) 0 0 8))) (cu_14 hk _) ?_
  refine v_aload_n F (pc := 31) dX0_copyFrom_31 rfl ?_
  refine v_getf F (pc := 32) fd_X0_18_3 (v := .ref (P 8)) dX0_copyFrom_32 (ch_5 hk) rfl ?_
  refine v_iconst F (pc := 35) dX0_copyFrom_35 ?_
  refine v_aload_n F (pc := 36) dX0_copyFrom_36 rfl ?_
  refine v_getf F (pc := 37) fd_X0_18_3 (v := .ref (P 15)) dX0_copyFrom_37 (ch_12 hk) rfl ?_
  refine v_iconst F (pc := 40) dX0_copyFrom_40 ?_
  refine v_bipush F (pc := 41) dX0_copyFrom_41 (by decide) ?_
  refine v_copyi F (pc := 43) (n0 := 8) (n1 := 8) (f := τ 8) (f1 := τ 15) (sp := 0) (dp := 0) (n := 8) jw_ac_X0_36 jw_nat jw_stat jw_ini dX0_copyFrom_43 (ch_8 hk) (ch_15 hk) (by omega) (by omega) (by omega) (by omega) (by omega) (by omega) (by omega) (Nat.le_of_ble_eq_true rfl) (Nat.le_of_ble_eq_true rfl) (h' := cheap g P K r cp b b' (sf (sf (sf τ 13 (icpI (τ 6) (τ 13) 0 0 160)) 14 (icpI (τ 7) (τ 14) 0 0 8)) 15 (icpI (τ 8) (τ 15) 0 0 8))) (cu_15 hk _) ?_
  refine v_iconst F (pc := 46) dX0_copyFrom_46 ?_
  refine v_istore_n F (pc := 47) (lo' := [some (.ref (P 12)), some (.ref (P 5)), some (.int (iI (0)))]) dX0_copyFrom_47 (Nat.le_of_ble_eq_true rfl) rfl ?_
  refine v_iload_n F (pc := 48) dX0_copyFrom_48 rfl ?_
  refine v_iconst F (pc := 49) dX0_copyFrom_49 ?_
  refine v_icmp_ge F (pc := 50) (a := 0) (b := 2) 78 dX0_copyFrom_50 (by decide) (by omega) (by omega) (fun c_1 => ?_) (fun c_1 => ?_)
  · exact absurd c_1 (by decide)
  · refine v_aload_n F (pc := 53) dX0_copyFrom_53 rfl ?_
    refine v_getf F (pc := 54) fd_X0_23_3 (v := .ref (P 9)) dX0_copyFrom_54 (ch_5 hk) rfl ?_
    refine v_iload_n F (pc := 57) dX0_copyFrom_57 rfl ?_
    refine v_aaldA F (pc := 58) (n := 2) (r := cout P 5) (z := 0) (q := P 10) dX0_copyFrom_58 (ch_9 hk) (by omega) (by decide) rfl ?_
    refine v_iconst F (pc := 59) dX0_copyFrom_59 ?_
    refine v_aload_n F (pc := 60) dX0_copyFrom_60 rfl ?_
    refine v_getf F (pc := 61) fd_X0_23_3 (v := .ref (P 16)) dX0_copyFrom_61 (ch_12 hk) rfl ?_
    refine v_iload_n F (pc := 64) dX0_copyFrom_64 rfl ?_
    refine v_aaldA F (pc := 65) (n := 2) (r := cout P 12) (z := 0) (q := P 17) dX0_copyFrom_65 (ch_16 hk) (by omega) (by decide) rfl ?_
    refine v_iconst F (pc := 66) dX0_copyFrom_66 ?_
    refine v_bipush F (pc := 67) dX0_copyFrom_67 (by decide) ?_
    refine v_copyi F (pc := 69) (n0 := 8) (n1 := 8) (f := τ 10) (f1 := τ 17) (sp := 0) (dp := 0) (n := 8) jw_ac_X0_36 jw_nat jw_stat jw_ini dX0_copyFrom_69 (ch_10 hk) (ch_17 hk) (by omega) (by omega) (by omega) (by omega) (by omega) (by omega) (by omega) (Nat.le_of_ble_eq_true rfl) (Nat.le_of_ble_eq_true rfl) (h' := cheap g P K r cp b b' (sf (sf (sf (sf τ 13 (icpI (τ 6) (τ 13) 0 0 160)) 14 (icpI (τ 7) (τ 14) 0 0 8)) 15 (icpI (τ 8) (τ 15) 0 0 8)) 17 (icpI (τ 10) (τ 17) 0 0 8))) (cu_17 hk _) ?_
    refine v_iinc F (pc := 72) (lo' := [some (.ref (P 12)), some (.ref (P 5)), some (.int (iI (1)))]) dX0_copyFrom_72 rfl (Nat.le_of_ble_eq_true rfl) rfl ?_
    refine v_goto F (pc := 75) 48 dX0_copyFrom_75 (by decide) ?_
    refine v_iload_n F (pc := 48) dX0_copyFrom_48 rfl ?_
    refine v_iconst F (pc := 49) dX0_copyFrom_49 ?_
    refine v_icmp_ge F (pc := 50) (a := 1) (b := 2) 78 dX0_copyFrom_50 (by decide) (by omega) (by omega) (fun c_2 => ?_) (fun c_2 => ?_)
    · exact absurd c_2 (by decide)
    · refine v_aload_n F (pc := 53) dX0_copyFrom_53 rfl ?_
      refine v_getf F (pc := 54) fd_X0_23_3 (v := .ref (P 9)) dX0_copyFrom_54 (ch_5 hk) rfl ?_
      refine v_iload_n F (pc := 57) dX0_copyFrom_57 rfl ?_
      refine v_aaldA F (pc := 58) (n := 2) (r := cout P 5) (z := 1) (q := P 11) dX0_copyFrom_58 (ch_9 hk) (by omega) (by decide) rfl ?_
      refine v_iconst F (pc := 59) dX0_copyFrom_59 ?_
      refine v_aload_n F (pc := 60) dX0_copyFrom_60 rfl ?_
      refine v_getf F (pc := 61) fd_X0_23_3 (v := .ref (P 16)) dX0_copyFrom_61 (ch_12 hk) rfl ?_
      refine v_iload_n F (pc := 64) dX0_copyFrom_64 rfl ?_
      refine v_aaldA F (pc := 65) (n := 2) (r := cout P 12) (z := 1) (q := P 18) dX0_copyFrom_65 (ch_16 hk) (by omega) (by decide) rfl ?_
      refine v_iconst F (pc := 66) dX0_copyFrom_66 ?_
      refine v_bipush F (pc := 67) dX0_copyFrom_67 (by decide) ?_
      refine v_copyi F (pc := 69) (n0 := 8) (n1 := 8) (f := τ 11) (f1 := τ 18) (sp := 0) (dp := 0) (n := 8) jw_ac_X0_36 jw_nat jw_stat jw_ini dX0_copyFrom_69 (ch_11 hk) (ch_18 hk) (by omega) (by omega) (by omega) (by omega) (by omega) (by omega) (by omega) (Nat.le_of_ble_eq_true rfl) (Nat.le_of_ble_eq_true rfl) (h' := cheap g P K r cp b b' (sf (sf (sf (sf (sf τ 13 (icpI (τ 6) (τ 13) 0 0 160)) 14 (icpI (τ 7) (τ 14) 0 0 8)) 15 (icpI (τ 8) (τ 15) 0 0 8)) 17 (icpI (τ 10) (τ 17) 0 0 8)) 18 (icpI (τ 11) (τ 18) 0 0 8))) (cu_18 hk _) ?_
      refine v_iinc F (pc := 72) (lo' := [some (.ref (P 12)), some (.ref (P 5)), some (.int (iI (2)))]) dX0_copyFrom_72 rfl (Nat.le_of_ble_eq_true rfl) rfl ?_
      refine v_goto F (pc := 75) 48 dX0_copyFrom_75 (by decide) ?_
      refine v_iload_n F (pc := 48) dX0_copyFrom_48 rfl ?_
      refine v_iconst F (pc := 49) dX0_copyFrom_49 ?_
      refine v_icmp_ge F (pc := 50) (a := 2) (b := 2) 78 dX0_copyFrom_50 (by decide) (by omega) (by omega) (fun c_3 => ?_) (fun c_3 => ?_)
      · refine v_vret F (pc := 78) dX0_copyFrom_78 rfl (Nat.le_of_ble_eq_true rfl) (Nat.le_of_ble_eq_true rfl) ?_
        exact ⟨rfl, rfl⟩
      · exact absurd c_3 (by decide)
theorem k_X0_copyFrom (l : Launch) (g : gT) {w : Nat} (hw : w = 5 ∨ w = 12) {P K : Nat → Nat} {r : Nat → Int → Option Nat} {cp : Nat → Nat} {b b' : Nat} {τ : sT} (hk : cok P K cp) {w2 : Nat} (hw2 : w2 = 17 - w) : CM l g yX0_copyFrom cX0_copyFrom 3 none { frames := 2, cells := 0, slots := 0, locals := 60 } [.ref (P w), .ref (P w2)] (cheap g P K r cp b b' τ) (pV none (cheap g P K r cp b b' (cCpA τ w w2))) noX := by
  subst hw2
  rcases hw with rfl | rfl
  · exact k_X0_copyFrom_5 l g hk
  · exact k_X0_copyFrom_12 l g hk
-- X0_fillUp
set_option maxRecDepth 100000 in
set_option maxHeartbeats 8000000 in
theorem k_X0_fillUp_5 (l : Launch) (g : gT) {P K : Nat → Nat} {r : Nat → Int → Option Nat} {cp : Nat → Nat} {b b' : Nat} {τ : sT} (hk : cok P K cp) (hV : CV K r cp τ) (B : Int) (hB : B ≤ 900000) (hW : Wn τ 5 B) (k : Int) (hk2 : 0 ≤ k ∧ k < τ 55 0) {m : Nat} (hm : K m = 1) : CM l g yX0_fillUp cX0_fillUp 5 (some .int) ({ frames := 8, cells := 0, slots := 0, locals := 175 }) [.ref (P 5), .int (iI (k)), .ref m] (cheap g P K r cp b b' τ) (fun v h1 => ∃ j : Nat, v = some (.int (iI ((j : Nat) : Int))) ∧ h1 = cheap g P K r cp b b' ((cUp r τ 5 k m j)) ∧ j ≤ 20 ∧ (∀ i, i < j → cFit r (cUp r τ 5 k m i) 5 k m ≠ -1) ∧ (j < 20 → cFit r (cUp r τ 5 k m j) 5 k m = -1)) (noX) := by
  refine CM.of (lo := [some (.ref (P 5)), some (.int (iI (k))), some (.ref m), none, none]) (by decide) (Nat.le_of_ble_eq_true rfl) (by simp [Value.category]) rfl ?_
  intro pX eX sX mX bX tX cX AX F htab hmn
  have F : Fx pX l sX mX ([.ref (P 5), .int (iI (k)), .ref m] : List Value).toArray tX cX cX0_fillUp 5 (some .int) RX0 g AX := F
  have hM := hV.1
  have hR := hV.2.1
  have hL0 := hV.2.2.1
  have hL1 := hV.2.2.2.1
  have hL2 := hV.2.2.2.2.1
  have hS20 := hV.2.2.2.2.2.1
  have hS21 := hV.2.2.2.2.2.2.1
  have hS22 := hV.2.2.2.2.2.2.2.1
  have hS2 := hV.2.2.2.2.2.2.2.2.1
  have hn8 : 0 ≤ τ 55 0 ∧ τ 55 0 ≤ 8 := ⟨hL2.1, hL2.2.2.2.1⟩
  have hn60 : 0 ≤ τ 53 0 ∧ τ 53 0 ≤ 60 := ⟨hL0.1, hL0.2.2.2.1⟩
  have hmb := hM m hm
  have hp0 := m_pw_2000 (c := τ 34 m) (f := 0) hmb.2.2.1
  have hp1 := m_pw_2000 (c := τ 34 m) (f := 1) hmb.2.2.1
  refine v_iconst F (pc := 0) dX0_fillUp_0 ?_
  refine v_istore_n F (pc := 1) (lo' := [some (.ref (P 5)), some (.int (iI (k))), some (.ref m), some (.int (iI (0))), none]) dX0_fillUp_1 (Nat.le_of_ble_eq_true rfl) rfl ?_
  have LP2 : ∀ (N_ : Nat) (j : Nat), (j ≤ 20) → (Wn (cUp r τ 5 k m j) 5 (B + 2000 * j)) → (∀ i, i < j → cFit r (cUp r τ 5 k m i) 5 k m ≠ -1) → 20 - j < N_ → VE pX l eX ({ frames := 8, cells := 0, slots := 0, locals := 175 }) sX mX ([.ref (P 5), .int (iI (k)), .ref m] : List Value).toArray bX tX cX 5 g AX (cheap g P K r cp b b' (cUp r τ 5 k m j)) 0 0 2 [some (.ref (P 5)), some (.int (iI (k))), some (.ref m), some (.int (iI ((j : Nat)))), none] [] (fun v h1 => ∃ j : Nat, v = some (.int (iI ((j : Nat) : Int))) ∧ h1 = cheap g P K r cp b b' ((cUp r τ 5 k m j)) ∧ j ≤ 20 ∧ (∀ i, i < j → cFit r (cUp r τ 5 k m i) 5 k m ≠ -1) ∧ (j < 20 → cFit r (cUp r τ 5 k m j) 5 k m = -1)) (noX) 0 0 := by
    intro N_
    induction N_ with
    | zero => intro j _ _ _ hm_; exact absurd hm_ (Nat.not_lt_zero _)
    | succ N_ ih =>
      intro j hj1 hWn hft hm_
      have hVj : CV K r cp (cUp r τ 5 k m j) := hV.of (fun f hf => cUp_fix (Or.inl rfl) hf j)
      have hWj : Wb (cUp r τ 5 k m j) 5 := hWn.wb (by omega)
      have hmbj : Mb (cUp r τ 5 k m j) m := hVj.1 m hm
      have e55 : (cUp r τ 5 k m j) 55 = τ 55 := cUp_fix (Or.inl rfl) rfl j
      have e55b : (cUp r τ 5 k m j) 55 0 = τ 55 0 := by rw [e55]
      have hrj := hVj.2.1 _ (hL2.2.2.2.2 k hk2.1 hk2.2).2
      refine v_iload_n F (pc := 2) dX0_fillUp_2 rfl ?_
      refine v_bipush F (pc := 3) dX0_fillUp_3 (by decide) ?_
      refine v_icmp_ge F (pc := 5) (a := (j : Nat)) (b := 20) 37 dX0_fillUp_5 (by decide) (by omega) (by omega) (fun c_1 => ?_) (fun c_1 => ?_)
      · refine v_bipush F (pc := 37) dX0_fillUp_37 (by decide) ?_
        refine v_iret F (pc := 39) (z := (iI (20))) dX0_fillUp_39 rfl rfl (Nat.le_of_ble_eq_true rfl) (Nat.le_of_ble_eq_true rfl) ?_
        exact ⟨j, by rw [show ((j : Nat) : Int) = 20 by omega], rfl, hj1, hft, fun z => by omega⟩
      · refine v_aload_n F (pc := 8) dX0_fillUp_8 rfl ?_
        refine v_iload_n F (pc := 9) dX0_fillUp_9 rfl ?_
        refine v_aload_n F (pc := 10) dX0_fillUp_10 rfl ?_
        refine v_callVp F (pc := 11) (As := [.int (iI (k)), .ref m]) (rest := []) ci_X0_106 ct_X0_fitIn cs_X0_fitIn (k_X0_fitIn l g (Or.inl rfl) hk (τ := (cUp r τ 5 k m j)) (K := K) (r := r) (cp := cp) (b := b) (b' := b') hVj hWj k (by omega) hm) dX0_fillUp_11 (k0 := 3) rfl rfl (ch_5 hk) rfl rfl (Nat.le_of_ble_eq_true rfl) (Nat.le_of_ble_eq_true rfl) (Nat.le_of_ble_eq_true rfl) (Nat.le_of_ble_eq_true rfl) (Nat.le_of_ble_eq_true rfl) ?_ (fun _ _ z => z.elim)
        have rg_2 := cFit_rng (r := r) (τ := (cUp r τ 5 k m j)) (w := 5) (k := k) (m := m) hVj (by omega) (by omega) hm
        refine v_istore F (pc := 14) (lo' := [some (.ref (P 5)), some (.int (iI (k))), some (.ref m), some (.int (iI ((j : Nat)))), some (.int (iI (cFit r (cUp r τ 5 k m j) 5 k m)))]) dX0_fillUp_14 (Nat.le_of_ble_eq_true rfl) rfl ?_
        refine v_iload F (pc := 16) dX0_fillUp_16 rfl ?_
        refine v_iconst F (pc := 18) dX0_fillUp_18 ?_
        refine v_icmp_ne F (pc := 19) (a := cFit r (cUp r τ 5 k m j) 5 k m) (b := -1) 24 dX0_fillUp_19 (by decide) (by omega) (by omega) (fun c_3 => ?_) (fun c_3 => ?_)
        · have hq9 := c_3
          refine v_aload_n F (pc := 24) dX0_fillUp_24 rfl ?_
          refine v_aload_n F (pc := 25) dX0_fillUp_25 rfl ?_
          refine v_iload F (pc := 26) dX0_fillUp_26 rfl ?_
          refine v_callVn F (pc := 28) (As := [.ref m, .int (iI (cFit r (cUp r τ 5 k m j) 5 k m))]) (rest := []) ci_X0_117 ct_X0_put cs_X0_put (k_X0_put l g (Or.inl rfl) hk (τ := (cUp r τ 5 k m j)) (K := K) (r := r) (cp := cp) (b := b) (b' := b') hm hmbj (cFit r (cUp r τ 5 k m j) 5 k m) (by omega)) dX0_fillUp_28 (k0 := 3) rfl rfl (ch_5 hk) rfl rfl (Nat.le_of_ble_eq_true rfl) (Nat.le_of_ble_eq_true rfl) (Nat.le_of_ble_eq_true rfl) (Nat.le_of_ble_eq_true rfl) (Nat.le_of_ble_eq_true rfl) ?_ (fun _ _ z => z.elim)
          refine v_iinc F (pc := 31) (lo' := [some (.ref (P 5)), some (.int (iI (k))), some (.ref m), some (.int (iI ((j : Nat) + 1))), some (.int (iI (cFit r (cUp r τ 5 k m j) 5 k m)))]) dX0_fillUp_31 rfl (Nat.le_of_ble_eq_true rfl) rfl ?_
          refine v_goto F (pc := 34) 2 dX0_fillUp_34 (by decide) ?_
          have hWs : Wn (cUp r τ 5 k m (j + 1)) 5 (B + 2000 * ((j + 1 : Nat) : Int)) := by
            rw [show B + 2000 * ((j + 1 : Nat) : Int) = B + 2000 * (j : Int) + 2000 by omega]
            exact hWn.put (Or.inl rfl) hmbj (by omega)
          exact V.fg (V.to (ih (j + 1) (by omega) hWs (fun i hi => by rcases Nat.lt_succ_iff_lt_or_eq.mp hi with q | rfl; exact hft i q; exact hq9) (by omega)) rfl rfl rfl) ⟨rfl, ⟨rfl, ⟨rfl, ⟨rfl, trivial⟩⟩⟩⟩
        · have hq9 := c_3
          refine v_iload_n F (pc := 22) dX0_fillUp_22 rfl ?_
          refine v_iret F (pc := 23) (z := (iI ((j : Nat)))) dX0_fillUp_23 rfl rfl (Nat.le_of_ble_eq_true rfl) (Nat.le_of_ble_eq_true rfl) ?_
          exact ⟨j, rfl, rfl, hj1, hft, fun _ => by omega⟩
  have hW0_ : Wn τ 5 (B + 2000 * ((0 : Nat) : Int)) := by rw [show B + 2000 * ((0 : Nat) : Int) = B by omega]; exact hW
  exact V.fg (LP2 _ 0 (by omega) hW0_ (fun i hi => absurd hi (Nat.not_lt_zero i)) (Nat.lt_succ_self _)) ⟨rfl, ⟨rfl, ⟨rfl, ⟨rfl, trivial⟩⟩⟩⟩
-- X0_fillUp
set_option maxRecDepth 100000 in
set_option maxHeartbeats 8000000 in
theorem k_X0_fillUp_12 (l : Launch) (g : gT) {P K : Nat → Nat} {r : Nat → Int → Option Nat} {cp : Nat → Nat} {b b' : Nat} {τ : sT} (hk : cok P K cp) (hV : CV K r cp τ) (B : Int) (hB : B ≤ 900000) (hW : Wn τ 12 B) (k : Int) (hk2 : 0 ≤ k ∧ k < τ 55 0) {m : Nat} (hm : K m = 1) : CM l g yX0_fillUp cX0_fillUp 5 (some .int) ({ frames := 8, cells := 0, slots := 0, locals := 175 }) [.ref (P 12), .int (iI (k)), .ref m] (cheap g P K r cp b b' τ) (fun v h1 => ∃ j : Nat, v = some (.int (iI ((j : Nat) : Int))) ∧ h1 = cheap g P K r cp b b' ((cUp r τ 12 k m j)) ∧ j ≤ 20 ∧ (∀ i, i < j → cFit r (cUp r τ 12 k m i) 12 k m ≠ -1) ∧ (j < 20 → cFit r (cUp r τ 12 k m j) 12 k m = -1)) (noX) := by
  refine CM.of (lo := [some (.ref (P 12)), some (.int (iI (k))), some (.ref m), none, none]) (by decide) (Nat.le_of_ble_eq_true rfl) (by simp [Value.category]) rfl ?_
  intro pX eX sX mX bX tX cX AX F htab hmn
  have F : Fx pX l sX mX ([.ref (P 12), .int (iI (k)), .ref m] : List Value).toArray tX cX cX0_fillUp 5 (some .int) RX0 g AX := F
  have hM := hV.1
  have hR := hV.2.1
  have hL0 := hV.2.2.1
  have hL1 := hV.2.2.2.1
  have hL2 := hV.2.2.2.2.1
  have hS20 := hV.2.2.2.2.2.1
  have hS21 := hV.2.2.2.2.2.2.1
  have hS22 := hV.2.2.2.2.2.2.2.1
  have hS2 := hV.2.2.2.2.2.2.2.2.1
  have hn8 : 0 ≤ τ 55 0 ∧ τ 55 0 ≤ 8 := ⟨hL2.1, hL2.2.2.2.1⟩
  have hn60 : 0 ≤ τ 53 0 ∧ τ 53 0 ≤ 60 := ⟨hL0.1, hL0.2.2.2.1⟩
  have hmb := hM m hm
  have hp0 := m_pw_2000 (c := τ 34 m) (f := 0) hmb.2.2.1
  have hp1 := m_pw_2000 (c := τ 34 m) (f := 1) hmb.2.2.1
  refine v_iconst F (pc := 0) dX0_fillUp_0 ?_
  refine v_istore_n F (pc := 1) (lo' := [some (.ref (P 12)), some (.int (iI (k))), some (.ref m), some (.int (iI (0))), none]) dX0_fillUp_1 (Nat.le_of_ble_eq_true rfl) rfl ?_
  have LP2 : ∀ (N_ : Nat) (j : Nat), (j ≤ 20) → (Wn (cUp r τ 12 k m j) 12 (B + 2000 * j)) → (∀ i, i < j → cFit r (cUp r τ 12 k m i) 12 k m ≠ -1) → 20 - j < N_ → VE pX l eX ({ frames := 8, cells := 0, slots := 0, locals := 175 }) sX mX ([.ref (P 12), .int (iI (k)), .ref m] : List Value).toArray bX tX cX 5 g AX (cheap g P K r cp b b' (cUp r τ 12 k m j)) 0 0 2 [some (.ref (P 12)), some (.int (iI (k))), some (.ref m), some (.int (iI ((j : Nat)))), none] [] (fun v h1 => ∃ j : Nat, v = some (.int (iI ((j : Nat) : Int))) ∧ h1 = cheap g P K r cp b b' ((cUp r τ 12 k m j)) ∧ j ≤ 20 ∧ (∀ i, i < j → cFit r (cUp r τ 12 k m i) 12 k m ≠ -1) ∧ (j < 20 → cFit r (cUp r τ 12 k m j) 12 k m = -1)) (noX) 0 0 := by
    intro N_
    induction N_ with
    | zero => intro j _ _ _ hm_; exact absurd hm_ (Nat.not_lt_zero _)
    | succ N_ ih =>
      intro j hj1 hWn hft hm_
      have hVj : CV K r cp (cUp r τ 12 k m j) := hV.of (fun f hf => cUp_fix (Or.inr rfl) hf j)
      have hWj : Wb (cUp r τ 12 k m j) 12 := hWn.wb (by omega)
      have hmbj : Mb (cUp r τ 12 k m j) m := hVj.1 m hm
      have e55 : (cUp r τ 12 k m j) 55 = τ 55 := cUp_fix (Or.inr rfl) rfl j
      have e55b : (cUp r τ 12 k m j) 55 0 = τ 55 0 := by rw [e55]
      have hrj := hVj.2.1 _ (hL2.2.2.2.2 k hk2.1 hk2.2).2
      refine v_iload_n F (pc := 2) dX0_fillUp_2 rfl ?_
      refine v_bipush F (pc := 3) dX0_fillUp_3 (by decide) ?_
      refine v_icmp_ge F (pc := 5) (a := (j : Nat)) (b := 20) 37 dX0_fillUp_5 (by decide) (by omega) (by omega) (fun c_1 => ?_) (fun c_1 => ?_)
      · refine v_bipush F (pc := 37) dX0_fillUp_37 (by decide) ?_
        refine v_iret F (pc := 39) (z := (iI (20))) dX0_fillUp_39 rfl rfl (Nat.le_of_ble_eq_true rfl) (Nat.le_of_ble_eq_true rfl) ?_
        exact ⟨j, by rw [show ((j : Nat) : Int) = 20 by omega], rfl, hj1, hft, fun z => by omega⟩
      · refine v_aload_n F (pc := 8) dX0_fillUp_8 rfl ?_
        refine v_iload_n F (pc := 9) dX0_fillUp_9 rfl ?_
        refine v_aload_n F (pc := 10) dX0_fillUp_10 rfl ?_
        refine v_callVp F (pc := 11) (As := [.int (iI (k)), .ref m]) (rest := []) ci_X0_106 ct_X0_fitIn cs_X0_fitIn (k_X0_fitIn l g (Or.inr rfl) hk (τ := (cUp r τ 12 k m j)) (K := K) (r := r) (cp := cp) (b := b) (b' := b') hVj hWj k (by omega) hm) dX0_fillUp_11 (k0 := 3) rfl rfl (ch_12 hk) rfl rfl (Nat.le_of_ble_eq_true rfl) (Nat.le_of_ble_eq_true rfl) (Nat.le_of_ble_eq_true rfl) (Nat.le_of_ble_eq_true rfl) (Nat.le_of_ble_eq_true rfl) ?_ (fun _ _ z => z.elim)
        have rg_2 := cFit_rng (r := r) (τ := (cUp r τ 12 k m j)) (w := 12) (k := k) (m := m) hVj (by omega) (by omega) hm
        refine v_istore F (pc := 14) (lo' := [some (.ref (P 12)), some (.int (iI (k))), some (.ref m), some (.int (iI ((j : Nat)))), some (.int (iI (cFit r (cUp r τ 12 k m j) 12 k m)))]) dX0_fillUp_14 (Nat.le_of_ble_eq_true rfl) rfl ?_
        refine v_iload F (pc := 16) dX0_fillUp_16 rfl ?_
        refine v_iconst F (pc := 18) dX0_fillUp_18 ?_
        refine v_icmp_ne F (pc := 19) (a := cFit r (cUp r τ 12 k m j) 12 k m) (b := -1) 24 dX0_fillUp_19 (by decide) (by omega) (by omega) (fun c_3 => ?_) (fun c_3 => ?_)
        · have hq9 := c_3
          refine v_aload_n F (pc := 24) dX0_fillUp_24 rfl ?_
          refine v_aload_n F (pc := 25) dX0_fillUp_25 rfl ?_
          refine v_iload F (pc := 26) dX0_fillUp_26 rfl ?_
          refine v_callVn F (pc := 28) (As := [.ref m, .int (iI (cFit r (cUp r τ 12 k m j) 12 k m))]) (rest := []) ci_X0_117 ct_X0_put cs_X0_put (k_X0_put l g (Or.inr rfl) hk (τ := (cUp r τ 12 k m j)) (K := K) (r := r) (cp := cp) (b := b) (b' := b') hm hmbj (cFit r (cUp r τ 12 k m j) 12 k m) (by omega)) dX0_fillUp_28 (k0 := 3) rfl rfl (ch_12 hk) rfl rfl (Nat.le_of_ble_eq_true rfl) (Nat.le_of_ble_eq_true rfl) (Nat.le_of_ble_eq_true rfl) (Nat.le_of_ble_eq_true rfl) (Nat.le_of_ble_eq_true rfl) ?_ (fun _ _ z => z.elim)
          refine v_iinc F (pc := 31) (lo' := [some (.ref (P 12)), some (.int (iI (k))), some (.ref m), some (.int (iI ((j : Nat) + 1))), some (.int (iI (cFit r (cUp r τ 12 k m j) 12 k m)))]) dX0_fillUp_31 rfl (Nat.le_of_ble_eq_true rfl) rfl ?_
          refine v_goto F (pc := 34) 2 dX0_fillUp_34 (by decide) ?_
          have hWs : Wn (cUp r τ 12 k m (j + 1)) 12 (B + 2000 * ((j + 1 : Nat) : Int)) := by
            rw [show B + 2000 * ((j + 1 : Nat) : Int) = B + 2000 * (j : Int) + 2000 by omega]
            exact hWn.put (Or.inr rfl) hmbj (by omega)
          exact V.fg (V.to (ih (j + 1) (by omega) hWs (fun i hi => by rcases Nat.lt_succ_iff_lt_or_eq.mp hi with q | rfl; exact hft i q; exact hq9) (by omega)) rfl rfl rfl) ⟨rfl, ⟨rfl, ⟨rfl, ⟨rfl, trivial⟩⟩⟩⟩
        · have hq9 := c_3
          refine v_iload_n F (pc := 22) dX0_fillUp_22 rfl ?_
          refine v_iret F (pc := 23) (z := (iI ((j : Nat)))) dX0_fillUp_23 rfl rfl (Nat.le_of_ble_eq_true rfl) (Nat.le_of_ble_eq_true rfl) ?_
          exact ⟨j, rfl, rfl, hj1, hft, fun _ => by omega⟩
  have hW0_ : Wn τ 12 (B + 2000 * ((0 : Nat) : Int)) := by rw [show B + 2000 * ((0 : Nat) : Int) = B by omega]; exact hW
  exact V.fg (LP2 _ 0 (by omega) hW0_ (fun i hi => absurd hi (Nat.not_lt_zero i)) (Nat.lt_succ_self _)) ⟨rfl, ⟨rfl, ⟨rfl, ⟨rfl, trivial⟩⟩⟩⟩
theorem k_X0_fillUp (l : Launch) (g : gT) {w : Nat} (hw : w = 5 ∨ w = 12) {P K : Nat → Nat} {r : Nat → Int → Option Nat} {cp : Nat → Nat} {b b' : Nat} {τ : sT} (hk : cok P K cp) (hV : CV K r cp τ) (B : Int) (hB : B ≤ 900000) (hW : Wn τ w B) (k : Int) (hk2 : 0 ≤ k ∧ k < τ 55 0) {m : Nat} (hm : K m = 1) : CM l g yX0_fillUp cX0_fillUp 5 (some .int) { frames := 8, cells := 0, slots := 0, locals := 175 } [.ref (P w), .int (iI (k)), .ref m] (cheap g P K r cp b b' τ) (fun v h1 => ∃ j : Nat, v = some (.int (iI ((j : Nat) : Int))) ∧ h1 = cheap g P K r cp b b' ((cUp r τ w k m j)) ∧ j ≤ 20 ∧ (∀ i, i < j → cFit r (cUp r τ w k m i) w k m ≠ -1) ∧ (j < 20 → cFit r (cUp r τ w k m j) w k m = -1)) (noX) := by
  rcases hw with rfl | rfl
  · exact k_X0_fillUp_5 l g hk hV B hB hW k hk2 hm
  · exact k_X0_fillUp_12 l g hk hV B hB hW k hk2 hm
