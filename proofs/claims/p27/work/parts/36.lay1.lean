-- X0_sumInRow
set_option maxRecDepth 100000 in
set_option maxHeartbeats 8000000 in
theorem k_X0_sumInRow_5 (l : Launch) (g : gT) {P K : Nat → Nat} {r : Nat → Int → Option Nat} {cp : Nat → Nat} {b b' : Nat} {τ : sT} (hk : cok P K cp) (hV : CV K r cp τ) (row : Int) (hrow : -2147483648 ≤ row ∧ row ≤ 2147483647) (f : Nat) (hf : cheap g P K r cp b b' τ (P f) = some (iar (g.2.1 0) 8 (τ f))) : CM l g yX0_sumInRow cX0_sumInRow 5 (some .int) ({ frames := 4, cells := 0, slots := 0, locals := 84 }) [.ref (P 5), .int (iI (row)), .ref (P f)] (cheap g P K r cp b b' τ) (pV (some (.int (iI (cSum r τ f row)))) (cheap g P K r cp b b' τ)) (noX) := by
  refine CM.of (lo := [some (.ref (P 5)), some (.int (iI (row))), some (.ref (P f)), none, none]) (by decide) (Nat.le_of_ble_eq_true rfl) (by simp [Value.category]) rfl ?_
  intro pX eX sX mX bX tX cX AX F htab hmn
  have F : Fx pX l sX mX ([.ref (P 5), .int (iI (row)), .ref (P f)] : List Value).toArray tX cX cX0_sumInRow 5 (some .int) RX0 g AX := F
  have hM := hV.1
  have hR := hV.2.1
  have hL0 := hV.2.2.1
  have hL1 := hV.2.2.2.1
  have hL2 := hV.2.2.2.2.1
  have hS20 := hV.2.2.2.2.2.1
  have hS21 := hV.2.2.2.2.2.2.1
  have hS22 := hV.2.2.2.2.2.2.2.1
  have hS2 := hV.2.2.2.2.2.2.2.2.1
  have hn8 : 0 ≤ τ 55 0 ∧ τ 55 0 ≤ 8 := ⟨hL2.1, hL2.2.2.2.1⟩
  have hn60 : 0 ≤ τ 53 0 ∧ τ 53 0 ≤ 60 := ⟨hL0.1, hL0.2.2.2.1⟩
  refine v_iconst F (pc := 0) dX0_sumInRow_0 ?_
  refine v_istore_n F (pc := 1) (lo' := [some (.ref (P 5)), some (.int (iI (row))), some (.ref (P f)), some (.int (iI (0))), none]) dX0_sumInRow_1 (Nat.le_of_ble_eq_true rfl) rfl ?_
  refine v_iconst F (pc := 2) dX0_sumInRow_2 ?_
  refine v_istore F (pc := 3) (lo' := [some (.ref (P 5)), some (.int (iI (row))), some (.ref (P f)), some (.int (iI (0))), some (.int (iI (0)))]) dX0_sumInRow_3 (Nat.le_of_ble_eq_true rfl) rfl ?_
  have LP5 : ∀ (N_ : Nat) (k : Int), (0 ≤ k) → (k ≤ (τ 55 0)) → ((τ 55 0) - k).toNat < N_ → VE pX l eX ({ frames := 4, cells := 0, slots := 0, locals := 84 }) sX mX ([.ref (P 5), .int (iI (row)), .ref (P f)] : List Value).toArray bX tX cX 5 g AX (cheap g P K r cp b b' τ) 0 0 5 [some (.ref (P 5)), some (.int (iI (row))), some (.ref (P f)), some (.int (iI (sm (cSR r τ f row) k))), some (.int (iI (k)))] [] (pV (some (.int (iI (cSum r τ f row)))) (cheap g P K r cp b b' τ)) (noX) 0 0 := by
    intro N_
    induction N_ with
    | zero => intro k _ _ hm_; exact absurd hm_ (Nat.not_lt_zero _)
    | succ N_ ih =>
      intro k hk0 hk1 hm_
      refine v_iload F (pc := 5) dX0_sumInRow_5 rfl ?_
      refine v_aload_n F (pc := 7) dX0_sumInRow_7 rfl ?_
      refine v_getf F (pc := 8) fd_X0_26_3 (v := .ref (P 1)) dX0_sumInRow_8 (ch_5 hk) rfl ?_
      refine v_getf F (pc := 11) fd_X0_85_6 (v := .ref (P 19)) dX0_sumInRow_11 (ch_1 hk) rfl ?_
      refine v_callVp F (pc := 14) (As := []) (rest := [.int (iI (k))]) ci_X0_91 ct_Jx4a65c_size_8abf5 cs_Jx4a65c_size_8abf5 (k_Jx4a65c_size_8abf5 l g (n := τ 55 0) (ch_19 hk)) dX0_sumInRow_14 (k0 := 2) rfl rfl (ch_19 hk) rfl rfl (Nat.le_of_ble_eq_true rfl) (Nat.le_of_ble_eq_true rfl) (Nat.le_of_ble_eq_true rfl) (Nat.le_of_ble_eq_true rfl) (Nat.le_of_ble_eq_true rfl) ?_ (fun _ _ z => z.elim)
      refine v_icmp_ge F (pc := 17) (a := k) (b := τ 55 0) 55 dX0_sumInRow_17 (by decide) (by omega) (by omega) (fun c_1 => ?_) (fun c_1 => ?_)
      · refine v_iload_n F (pc := 55) dX0_sumInRow_55 rfl ?_
        refine v_iret F (pc := 56) (z := (iI (sm (cSR r τ f row) k))) dX0_sumInRow_56 rfl rfl (Nat.le_of_ble_eq_true rfl) (Nat.le_of_ble_eq_true rfl) ?_
        exact ⟨congrArg (fun z => some (Value.int (iI z))) (by rw [show k = τ 55 0 by omega]; rfl), rfl⟩
      · refine v_aload_n F (pc := 20) dX0_sumInRow_20 rfl ?_
        refine v_getf F (pc := 21) fd_X0_26_3 (v := .ref (P 1)) dX0_sumInRow_21 (ch_5 hk) rfl ?_
        refine v_getf F (pc := 24) fd_X0_85_6 (v := .ref (P 19)) dX0_sumInRow_24 (ch_1 hk) rfl ?_
        refine v_iload F (pc := 27) dX0_sumInRow_27 rfl ?_
        refine v_callVp F (pc := 29) (As := [.int (iI (k))]) (rest := []) ci_X0_97 ct_Jx4a65c_get_915e3 cs_Jx4a65c_get_915e3 (kl_get2 l g (τ := τ) (r := r) (cp := cp) hk hL2 (k := k) (by omega) (show (k : Int) < τ 55 0 by omega)) dX0_sumInRow_29 (k0 := 2) rfl rfl (ch_19 hk) rfl rfl (Nat.le_of_ble_eq_true rfl) (Nat.le_of_ble_eq_true rfl) (Nat.le_of_ble_eq_true rfl) (Nat.le_of_ble_eq_true rfl) (Nat.le_of_ble_eq_true rfl) ?_ (fun _ _ z => z.elim)
        have kq_2 : K (ad r 2 k) = 2 := (hL2.2.2.2.2 k (by omega) (show (k : Int) < τ 55 0 by omega)).2
        have kq_2b := hR _ kq_2
        refine v_castS F (pc := 32) (ci := 5) rfl tk_X0_101 dX0_sumInRow_32 (ch_r hk kq_2) ?_
        refine v_getf F (pc := 35) fd_X0_103_5 (v := .int (iI (τ 40 (ad r 2 k)))) dX0_sumInRow_35 (ch_r hk kq_2) rfl ?_
        refine v_iload_n F (pc := 38) dX0_sumInRow_38 rfl ?_
        refine v_icmp_ne F (pc := 39) (a := τ 40 (ad r 2 k)) (b := row) 49 dX0_sumInRow_39 (by decide) (by omega) (by omega) (fun c_3 => ?_) (fun c_3 => ?_)
        · refine v_iinc F (pc := 49) (lo' := [some (.ref (P 5)), some (.int (iI (row))), some (.ref (P f)), some (.int (iI (sm (cSR r τ f row) k))), some (.int (iI (k + 1)))]) dX0_sumInRow_49 rfl (Nat.le_of_ble_eq_true rfl) rfl ?_
          refine v_goto F (pc := 52) 5 dX0_sumInRow_52 (by decide) ?_
          have e_0 : sm (cSR r τ f row) (k + 1) = sm (cSR r τ f row) k := by rw [sm_s _ hk0]; unfold cSR; split <;> (first | omega | simp_all)
          have ih2 := ih (k + 1) (by omega) (by omega)  (by omega)
          rw [e_0] at ih2
          exact ih2
        · refine v_iload_n F (pc := 42) dX0_sumInRow_42 rfl ?_
          refine v_aload_n F (pc := 43) dX0_sumInRow_43 rfl ?_
          refine v_iload F (pc := 44) dX0_sumInRow_44 rfl ?_
          refine v_iald F (pc := 46) (n := 8) (f := τ f) (z := k) dX0_sumInRow_46 hf (by omega) (by decide) ?_
          refine v_iadd F (pc := 47) (a := sm (cSR r τ f row) k) (b := (τ f) k) dX0_sumInRow_47 ?_
          refine v_istore_n F (pc := 48) (lo' := [some (.ref (P 5)), some (.int (iI (row))), some (.ref (P f)), some (.int (iI ((sm (cSR r τ f row) k) + ((τ f) k)))), some (.int (iI (k)))]) dX0_sumInRow_48 (Nat.le_of_ble_eq_true rfl) rfl ?_
          refine v_iinc F (pc := 49) (lo' := [some (.ref (P 5)), some (.int (iI (row))), some (.ref (P f)), some (.int (iI ((sm (cSR r τ f row) k) + ((τ f) k)))), some (.int (iI (k + 1)))]) dX0_sumInRow_49 rfl (Nat.le_of_ble_eq_true rfl) rfl ?_
          refine v_goto F (pc := 52) 5 dX0_sumInRow_52 (by decide) ?_
          have e_0 : sm (cSR r τ f row) (k + 1) = (sm (cSR r τ f row) k) + ((τ f) k) := by rw [sm_s _ hk0]; unfold cSR; split <;> (first | omega | simp_all)
          have ih2 := ih (k + 1) (by omega) (by omega)  (by omega)
          rw [e_0] at ih2
          exact ih2
  exact LP5 _ 0 (Int.le_refl _) (by omega)  (Nat.lt_succ_self _)
-- X0_sumInRow
set_option maxRecDepth 100000 in
set_option maxHeartbeats 8000000 in
theorem k_X0_sumInRow_12 (l : Launch) (g : gT) {P K : Nat → Nat} {r : Nat → Int → Option Nat} {cp : Nat → Nat} {b b' : Nat} {τ : sT} (hk : cok P K cp) (hV : CV K r cp τ) (row : Int) (hrow : -2147483648 ≤ row ∧ row ≤ 2147483647) (f : Nat) (hf : cheap g P K r cp b b' τ (P f) = some (iar (g.2.1 0) 8 (τ f))) : CM l g yX0_sumInRow cX0_sumInRow 5 (some .int) ({ frames := 4, cells := 0, slots := 0, locals := 84 }) [.ref (P 12), .int (iI (row)), .ref (P f)] (cheap g P K r cp b b' τ) (pV (some (.int (iI (cSum r τ f row)))) (cheap g P K r cp b b' τ)) (noX) := by
  refine CM.of (lo := [some (.ref (P 12)), some (.int (iI (row))), some (.ref (P f)), none, none]) (by decide) (Nat.le_of_ble_eq_true rfl) (by simp [Value.category]) rfl ?_
  intro pX eX sX mX bX tX cX AX F htab hmn
  have F : Fx pX l sX mX ([.ref (P 12), .int (iI (row)), .ref (P f)] : List Value).toArray tX cX cX0_sumInRow 5 (some .int) RX0 g AX := F
  have hM := hV.1
  have hR := hV.2.1
  have hL0 := hV.2.2.1
  have hL1 := hV.2.2.2.1
  have hL2 := hV.2.2.2.2.1
  have hS20 := hV.2.2.2.2.2.1
  have hS21 := hV.2.2.2.2.2.2.1
  have hS22 := hV.2.2.2.2.2.2.2.1
  have hS2 := hV.2.2.2.2.2.2.2.2.1
  have hn8 : 0 ≤ τ 55 0 ∧ τ 55 0 ≤ 8 := ⟨hL2.1, hL2.2.2.2.1⟩
  have hn60 : 0 ≤ τ 53 0 ∧ τ 53 0 ≤ 60 := ⟨hL0.1, hL0.2.2.2.1⟩
  refine v_iconst F (pc := 0) dX0_sumInRow_0 ?_
  refine v_istore_n F (pc := 1) (lo' := [some (.ref (P 12)), some (.int (iI (row))), some (.ref (P f)), some (.int (iI (0))), none]) dX0_sumInRow_1 (Nat.le_of_ble_eq_true rfl) rfl ?_
  refine v_iconst F (pc := 2) dX0_sumInRow_2 ?_
  refine v_istore F (pc := 3) (lo' := [some (.ref (P 12)), some (.int (iI (row))), some (.ref (P f)), some (.int (iI (0))), some (.int (iI (0)))]) dX0_sumInRow_3 (Nat.le_of_ble_eq_true rfl) rfl ?_
  have LP5 : ∀ (N_ : Nat) (k : Int), (0 ≤ k) → (k ≤ (τ 55 0)) → ((τ 55 0) - k).toNat < N_ → VE pX l eX ({ frames := 4, cells := 0, slots := 0, locals := 84 }) sX mX ([.ref (P 12), .int (iI (row)), .ref (P f)] : List Value).toArray bX tX cX 5 g AX (cheap g P K r cp b b' τ) 0 0 5 [some (.ref (P 12)), some (.int (iI (row))), some (.ref (P f)), some (.int (iI (sm (cSR r τ f row) k))), some (.int (iI (k)))] [] (pV (some (.int (iI (cSum r τ f row)))) (cheap g P K r cp b b' τ)) (noX) 0 0 := by
    intro N_
    induction N_ with
    | zero => intro k _ _ hm_; exact absurd hm_ (Nat.not_lt_zero _)
    | succ N_ ih =>
      intro k hk0 hk1 hm_
      refine v_iload F (pc := 5) dX0_sumInRow_5 rfl ?_
      refine v_aload_n F (pc := 7) dX0_sumInRow_7 rfl ?_
      refine v_getf F (pc := 8) fd_X0_26_3 (v := .ref (P 1)) dX0_sumInRow_8 (ch_12 hk) rfl ?_
      refine v_getf F (pc := 11) fd_X0_85_6 (v := .ref (P 19)) dX0_sumInRow_11 (ch_1 hk) rfl ?_
      refine v_callVp F (pc := 14) (As := []) (rest := [.int (iI (k))]) ci_X0_91 ct_Jx4a65c_size_8abf5 cs_Jx4a65c_size_8abf5 (k_Jx4a65c_size_8abf5 l g (n := τ 55 0) (ch_19 hk)) dX0_sumInRow_14 (k0 := 2) rfl rfl (ch_19 hk) rfl rfl (Nat.le_of_ble_eq_true rfl) (Nat.le_of_ble_eq_true rfl) (Nat.le_of_ble_eq_true rfl) (Nat.le_of_ble_eq_true rfl) (Nat.le_of_ble_eq_true rfl) ?_ (fun _ _ z => z.elim)
      refine v_icmp_ge F (pc := 17) (a := k) (b := τ 55 0) 55 dX0_sumInRow_17 (by decide) (by omega) (by omega) (fun c_1 => ?_) (fun c_1 => ?_)
      · refine v_iload_n F (pc := 55) dX0_sumInRow_55 rfl ?_
        refine v_iret F (pc := 56) (z := (iI (sm (cSR r τ f row) k))) dX0_sumInRow_56 rfl rfl (Nat.le_of_ble_eq_true rfl) (Nat.le_of_ble_eq_true rfl) ?_
        exact ⟨congrArg (fun z => some (Value.int (iI z))) (by rw [show k = τ 55 0 by omega]; rfl), rfl⟩
      · refine v_aload_n F (pc := 20) dX0_sumInRow_20 rfl ?_
        refine v_getf F (pc := 21) fd_X0_26_3 (v := .ref (P 1)) dX0_sumInRow_21 (ch_12 hk) rfl ?_
        refine v_getf F (pc := 24) fd_X0_85_6 (v := .ref (P 19)) dX0_sumInRow_24 (ch_1 hk) rfl ?_
        refine v_iload F (pc := 27) dX0_sumInRow_27 rfl ?_
        refine v_callVp F (pc := 29) (As := [.int (iI (k))]) (rest := []) ci_X0_97 ct_Jx4a65c_get_915e3 cs_Jx4a65c_get_915e3 (kl_get2 l g (τ := τ) (r := r) (cp := cp) hk hL2 (k := k) (by omega) (show (k : Int) < τ 55 0 by omega)) dX0_sumInRow_29 (k0 := 2) rfl rfl (ch_19 hk) rfl rfl (Nat.le_of_ble_eq_true rfl) (Nat.le_of_ble_eq_true rfl) (Nat.le_of_ble_eq_true rfl) (Nat.le_of_ble_eq_true rfl) (Nat.le_of_ble_eq_true rfl) ?_ (fun _ _ z => z.elim)
        have kq_2 : K (ad r 2 k) = 2 := (hL2.2.2.2.2 k (by omega) (show (k : Int) < τ 55 0 by omega)).2
        have kq_2b := hR _ kq_2
        refine v_castS F (pc := 32) (ci := 5) rfl tk_X0_101 dX0_sumInRow_32 (ch_r hk kq_2) ?_
        refine v_getf F (pc := 35) fd_X0_103_5 (v := .int (iI (τ 40 (ad r 2 k)))) dX0_sumInRow_35 (ch_r hk kq_2) rfl ?_
        refine v_iload_n F (pc := 38) dX0_sumInRow_38 rfl ?_
        refine v_icmp_ne F (pc := 39) (a := τ 40 (ad r 2 k)) (b := row) 49 dX0_sumInRow_39 (by decide) (by omega) (by omega) (fun c_3 => ?_) (fun c_3 => ?_)
        · refine v_iinc F (pc := 49) (lo' := [some (.ref (P 12)), some (.int (iI (row))), some (.ref (P f)), some (.int (iI (sm (cSR r τ f row) k))), some (.int (iI (k + 1)))]) dX0_sumInRow_49 rfl (Nat.le_of_ble_eq_true rfl) rfl ?_
          refine v_goto F (pc := 52) 5 dX0_sumInRow_52 (by decide) ?_
          have e_0 : sm (cSR r τ f row) (k + 1) = sm (cSR r τ f row) k := by rw [sm_s _ hk0]; unfold cSR; split <;> (first | omega | simp_all)
          have ih2 := ih (k + 1) (by omega) (by omega)  (by omega)
          rw [e_0] at ih2
          exact ih2
        · refine v_iload_n F (pc := 42) dX0_sumInRow_42 rfl ?_
          refine v_aload_n F (pc := 43) dX0_sumInRow_43 rfl ?_
          refine v_iload F (pc := 44) dX0_sumInRow_44 rfl ?_
          refine v_iald F (pc := 46) (n := 8) (f := τ f) (z := k) dX0_sumInRow_46 hf (by omega) (by decide) ?_
          refine v_iadd F (pc := 47) (a := sm (cSR r τ f row) k) (b := (τ f) k) dX0_sumInRow_47 ?_
          refine v_istore_n F (pc := 48) (lo' := [some (.ref (P 12)), some (.int (iI (row))), some (.ref (P f)), some (.int (iI ((sm (cSR r τ f row) k) + ((τ f) k)))), some (.int (iI (k)))]) dX0_sumInRow_48 (Nat.le_of_ble_eq_true rfl) rfl ?_
          refine v_iinc F (pc := 49) (lo' := [some (.ref (P 12)), some (.int (iI (row))), some (.ref (P f)), some (.int (iI ((sm (cSR r τ f row) k) + ((τ f) k)))), some (.int (iI (k + 1)))]) dX0_sumInRow_49 rfl (Nat.le_of_ble_eq_true rfl) rfl ?_
          refine v_goto F (pc := 52) 5 dX0_sumInRow_52 (by decide) ?_
          have e_0 : sm (cSR r τ f row) (k + 1) = (sm (cSR r τ f row) k) + ((τ f) k) := by rw [sm_s _ hk0]; unfold cSR; split <;> (first | omega | simp_all)
          have ih2 := ih (k + 1) (by omega) (by omega)  (by omega)
          rw [e_0] at ih2
          exact ih2
  exact LP5 _ 0 (Int.le_refl _) (by omega)  (Nat.lt_succ_self _)
theorem k_X0_sumInRow (l : Launch) (g : gT) {w : Nat} (hw : w = 5 ∨ w = 12) {P K : Nat → Nat} {r : Nat → Int → Option Nat} {cp : Nat → Nat} {b b' : Nat} {τ : sT} (hk : cok P K cp) (hV : CV K r cp τ) (row : Int) (hrow : -2147483648 ≤ row ∧ row ≤ 2147483647) (f : Nat) (hf : cheap g P K r cp b b' τ (P f) = some (iar (g.2.1 0) 8 (τ f))) : CM l g yX0_sumInRow cX0_sumInRow 5 (some .int) { frames := 4, cells := 0, slots := 0, locals := 84 } [.ref (P w), .int (iI (row)), .ref (P f)] (cheap g P K r cp b b' τ) (pV (some (.int (iI (cSum r τ f row)))) (cheap g P K r cp b b' τ)) (noX) := by
  rcases hw with rfl | rfl
  · exact k_X0_sumInRow_5 l g hk hV row hrow f hf
  · exact k_X0_sumInRow_12 l g hk hV row hrow f hf
-- X0_weightInRow
set_option maxRecDepth 100000 in
set_option maxHeartbeats 8000000 in
theorem k_X0_weightInRow_5 (l : Launch) (g : gT) {P K : Nat → Nat} {r : Nat → Int → Option Nat} {cp : Nat → Nat} {b b' : Nat} {τ : sT} (hk : cok P K cp) (hV : CV K r cp τ) (row : Int) (hrow : -2147483648 ≤ row ∧ row ≤ 2147483647) : CM l g yX0_weightInRow cX0_weightInRow 2 (some .int) ({ frames := 5, cells := 0, slots := 0, locals := 108 }) [.ref (P 5), .int (iI (row))] (cheap g P K r cp b b' τ) (pV (some (.int (iI (cSum r τ (5 + 2) row)))) (cheap g P K r cp b b' τ)) (noX) := by
  refine CM.of (lo := [some (.ref (P 5)), some (.int (iI (row)))]) (by decide) (Nat.le_of_ble_eq_true rfl) (by simp [Value.category]) rfl ?_
  intro pX eX sX mX bX tX cX AX F htab hmn
  have F : Fx pX l sX mX ([.ref (P 5), .int (iI (row))] : List Value).toArray tX cX cX0_weightInRow 2 (some .int) RX0 g AX := F
  refine v_aload_n F (pc := 0) dX0_weightInRow_0 rfl ?_
  refine v_iload_n F (pc := 1) dX0_weightInRow_1 rfl ?_
  refine v_aload_n F (pc := 2) dX0_weightInRow_2 rfl ?_
  refine v_getf F (pc := 3) fd_X0_15_3 (v := .ref (P 7)) dX0_weightInRow_3 (ch_5 hk) rfl ?_
  refine v_callVp F (pc := 6) (As := [.int (iI (row)), .ref (P 7)]) (rest := []) ci_X0_81 ct_X0_sumInRow cs_X0_sumInRow (k_X0_sumInRow l g (Or.inl rfl) hk (τ := τ) (K := K) (r := r) (cp := cp) (b := b) (b' := b') hV row (by omega) 7 (ch_7 hk)) dX0_weightInRow_6 (k0 := 3) rfl rfl (ch_5 hk) rfl rfl (Nat.le_of_ble_eq_true rfl) (Nat.le_of_ble_eq_true rfl) (Nat.le_of_ble_eq_true rfl) (Nat.le_of_ble_eq_true rfl) (Nat.le_of_ble_eq_true rfl) ?_ (fun _ _ z => z.elim)
  refine v_iret F (pc := 9) (z := (iI (cSum r τ 7 row))) dX0_weightInRow_9 rfl rfl (Nat.le_of_ble_eq_true rfl) (Nat.le_of_ble_eq_true rfl) ?_
  exact ⟨rfl, rfl⟩
-- X0_weightInRow
set_option maxRecDepth 100000 in
set_option maxHeartbeats 8000000 in
theorem k_X0_weightInRow_12 (l : Launch) (g : gT) {P K : Nat → Nat} {r : Nat → Int → Option Nat} {cp : Nat → Nat} {b b' : Nat} {τ : sT} (hk : cok P K cp) (hV : CV K r cp τ) (row : Int) (hrow : -2147483648 ≤ row ∧ row ≤ 2147483647) : CM l g yX0_weightInRow cX0_weightInRow 2 (some .int) ({ frames := 5, cells := 0, slots := 0, locals := 108 }) [.ref (P 12), .int (iI (row))] (cheap g P K r cp b b' τ) (pV (some (.int (iI (cSum r τ (12 + 2) row)))) (cheap g P K r cp b b' τ)) (noX) := by
  refine CM.of (lo := [some (.ref (P 12)), some (.int (iI (row)))]) (by decide) (Nat.le_of_ble_eq_true rfl) (by simp [Value.category]) rfl ?_
  intro pX eX sX mX bX tX cX AX F htab hmn
  have F : Fx pX l sX mX ([.ref (P 12), .int (iI (row))] : List Value).toArray tX cX cX0_weightInRow 2 (some .int) RX0 g AX := F
  refine v_aload_n F (pc := 0) dX0_weightInRow_0 rfl ?_
  refine v_iload_n F (pc := 1) dX0_weightInRow_1 rfl ?_
  refine v_aload_n F (pc := 2) dX0_weightInRow_2 rfl ?_
  refine v_getf F (pc := 3) fd_X0_15_3 (v := .ref (P 14)) dX0_weightInRow_3 (ch_12 hk) rfl ?_
  refine v_callVp F (pc := 6) (As := [.int (iI (row)), .ref (P 14)]) (rest := []) ci_X0_81 ct_X0_sumInRow cs_X0_sumInRow (k_X0_sumInRow l g (Or.inr rfl) hk (τ := τ) (K := K) (r := r) (cp := cp) (b := b) (b' := b') hV row (by omega) 14 (ch_14 hk)) dX0_weightInRow_6 (k0 := 3) rfl rfl (ch_12 hk) rfl rfl (Nat.le_of_ble_eq_true rfl) (Nat.le_of_ble_eq_true rfl) (Nat.le_of_ble_eq_true rfl) (Nat.le_of_ble_eq_true rfl) (Nat.le_of_ble_eq_true rfl) ?_ (fun _ _ z => z.elim)
  refine v_iret F (pc := 9) (z := (iI (cSum r τ 14 row))) dX0_weightInRow_9 rfl rfl (Nat.le_of_ble_eq_true rfl) (Nat.le_of_ble_eq_true rfl) ?_
  exact ⟨rfl, rfl⟩
theorem k_X0_weightInRow (l : Launch) (g : gT) {w : Nat} (hw : w = 5 ∨ w = 12) {P K : Nat → Nat} {r : Nat → Int → Option Nat} {cp : Nat → Nat} {b b' : Nat} {τ : sT} (hk : cok P K cp) (hV : CV K r cp τ) (row : Int) (hrow : -2147483648 ≤ row ∧ row ≤ 2147483647) : CM l g yX0_weightInRow cX0_weightInRow 2 (some .int) { frames := 5, cells := 0, slots := 0, locals := 108 } [.ref (P w), .int (iI (row))] (cheap g P K r cp b b' τ) (pV (some (.int (iI (cSum r τ (w + 2) row)))) (cheap g P K r cp b b' τ)) (noX) := by
  rcases hw with rfl | rfl
  · exact k_X0_weightInRow_5 l g hk hV row hrow
  · exact k_X0_weightInRow_12 l g hk hV row hrow
-- X0_heatInRow
set_option maxRecDepth 100000 in
set_option maxHeartbeats 8000000 in
theorem k_X0_heatInRow_5 (l : Launch) (g : gT) {P K : Nat → Nat} {r : Nat → Int → Option Nat} {cp : Nat → Nat} {b b' : Nat} {τ : sT} (hk : cok P K cp) (hV : CV K r cp τ) (row : Int) (hrow : -2147483648 ≤ row ∧ row ≤ 2147483647) : CM l g yX0_heatInRow cX0_heatInRow 2 (some .int) ({ frames := 5, cells := 0, slots := 0, locals := 108 }) [.ref (P 5), .int (iI (row))] (cheap g P K r cp b b' τ) (pV (some (.int (iI (cSum r τ (5 + 3) row)))) (cheap g P K r cp b b' τ)) (noX) := by
  refine CM.of (lo := [some (.ref (P 5)), some (.int (iI (row)))]) (by decide) (Nat.le_of_ble_eq_true rfl) (by simp [Value.category]) rfl ?_
  intro pX eX sX mX bX tX cX AX F htab hmn
  have F : Fx pX l sX mX ([.ref (P 5), .int (iI (row))] : List Value).toArray tX cX cX0_heatInRow 2 (some .int) RX0 g AX := F
  refine v_aload_n F (pc := 0) dX0_heatInRow_0 rfl ?_
  refine v_iload_n F (pc := 1) dX0_heatInRow_1 rfl ?_
  refine v_aload_n F (pc := 2) dX0_heatInRow_2 rfl ?_
  refine v_getf F (pc := 3) fd_X0_18_3 (v := .ref (P 8)) dX0_heatInRow_3 (ch_5 hk) rfl ?_
  refine v_callVp F (pc := 6) (As := [.int (iI (row)), .ref (P 8)]) (rest := []) ci_X0_81 ct_X0_sumInRow cs_X0_sumInRow (k_X0_sumInRow l g (Or.inl rfl) hk (τ := τ) (K := K) (r := r) (cp := cp) (b := b) (b' := b') hV row (by omega) 8 (ch_8 hk)) dX0_heatInRow_6 (k0 := 3) rfl rfl (ch_5 hk) rfl rfl (Nat.le_of_ble_eq_true rfl) (Nat.le_of_ble_eq_true rfl) (Nat.le_of_ble_eq_true rfl) (Nat.le_of_ble_eq_true rfl) (Nat.le_of_ble_eq_true rfl) ?_ (fun _ _ z => z.elim)
  refine v_iret F (pc := 9) (z := (iI (cSum r τ 8 row))) dX0_heatInRow_9 rfl rfl (Nat.le_of_ble_eq_true rfl) (Nat.le_of_ble_eq_true rfl) ?_
  exact ⟨rfl, rfl⟩
-- X0_heatInRow
set_option maxRecDepth 100000 in
set_option maxHeartbeats 8000000 in
theorem k_X0_heatInRow_12 (l : Launch) (g : gT) {P K : Nat → Nat} {r : Nat → Int → Option Nat} {cp : Nat → Nat} {b b' : Nat} {τ : sT} (hk : cok P K cp) (hV : CV K r cp τ) (row : Int) (hrow : -2147483648 ≤ row ∧ row ≤ 2147483647) : CM l g yX0_heatInRow cX0_heatInRow 2 (some .int) ({ frames := 5, cells := 0, slots := 0, locals := 108 }) [.ref (P 12), .int (iI (row))] (cheap g P K r cp b b' τ) (pV (some (.int (iI (cSum r τ (12 + 3) row)))) (cheap g P K r cp b b' τ)) (noX) := by
  refine CM.of (lo := [some (.ref (P 12)), some (.int (iI (row)))]) (by decide) (Nat.le_of_ble_eq_true rfl) (by simp [Value.category]) rfl ?_
  intro pX eX sX mX bX tX cX AX F htab hmn
  have F : Fx pX l sX mX ([.ref (P 12), .int (iI (row))] : List Value).toArray tX cX cX0_heatInRow 2 (some .int) RX0 g AX := F
  refine v_aload_n F (pc := 0) dX0_heatInRow_0 rfl ?_
  refine v_iload_n F (pc := 1) dX0_heatInRow_1 rfl ?_
  refine v_aload_n F (pc := 2) dX0_heatInRow_2 rfl ?_
  refine v_getf F (pc := 3) fd_X0_18_3 (v := .ref (P 15)) dX0_heatInRow_3 (ch_12 hk) rfl ?_
  refine v_callVp F (pc := 6) (As := [.int (iI (row)), .ref (P 15)]) (rest := []) ci_X0_81 ct_X0_sumInRow cs_X0_sumInRow (k_X0_sumInRow l g (Or.inr rfl) hk (τ := τ) (K := K) (r := r) (cp := cp) (b := b) (b' := b') hV row (by omega) 15 (ch_15 hk)) dX0_heatInRow_6 (k0 := 3) rfl rfl (ch_12 hk) rfl rfl (Nat.le_of_ble_eq_true rfl) (Nat.le_of_ble_eq_true rfl) (Nat.le_of_ble_eq_true rfl) (Nat.le_of_ble_eq_true rfl) (Nat.le_of_ble_eq_true rfl) ?_ (fun _ _ z => z.elim)
  refine v_iret F (pc := 9) (z := (iI (cSum r τ 15 row))) dX0_heatInRow_9 rfl rfl (Nat.le_of_ble_eq_true rfl) (Nat.le_of_ble_eq_true rfl) ?_
  exact ⟨rfl, rfl⟩
theorem k_X0_heatInRow (l : Launch) (g : gT) {w : Nat} (hw : w = 5 ∨ w = 12) {P K : Nat → Nat} {r : Nat → Int → Option Nat} {cp : Nat → Nat} {b b' : Nat} {τ : sT} (hk : cok P K cp) (hV : CV K r cp τ) (row : Int) (hrow : -2147483648 ≤ row ∧ row ≤ 2147483647) : CM l g yX0_heatInRow cX0_heatInRow 2 (some .int) { frames := 5, cells := 0, slots := 0, locals := 108 } [.ref (P w), .int (iI (row))] (cheap g P K r cp b b' τ) (pV (some (.int (iI (cSum r τ (w + 3) row)))) (cheap g P K r cp b b' τ)) (noX) := by
  rcases hw with rfl | rfl
  · exact k_X0_heatInRow_5 l g hk hV row hrow
  · exact k_X0_heatInRow_12 l g hk hV row hrow
-- X0_worstOnFeed
set_option maxRecDepth 100000 in
set_option maxHeartbeats 8000000 in
theorem k_X0_worstOnFeed_5 (l : Launch) (g : gT) {P K : Nat → Nat} {r : Nat → Int → Option Nat} {cp : Nat → Nat} {b b' : Nat} {τ : sT} (hk : cok P K cp) (hV : CV K r cp τ) (fd : Int) (hfd : 0 ≤ fd ∧ fd < 2) : CM l g yX0_worstOnFeed cX0_worstOnFeed 4 (some .int) ({ frames := 2, cells := 0, slots := 0, locals := 40 }) [.ref (P 5), .int (iI (fd))] (cheap g P K r cp b b' τ) (pV (some (.int (iI (cAll τ (5 + 5 + fd.toNat))))) (cheap g P K r cp b b' τ)) (noX) := by
  refine CM.of (lo := [some (.ref (P 5)), some (.int (iI (fd))), none, none]) (by decide) (Nat.le_of_ble_eq_true rfl) (by simp [Value.category]) rfl ?_
  intro pX eX sX mX bX tX cX AX F htab hmn
  have F : Fx pX l sX mX ([.ref (P 5), .int (iI (fd))] : List Value).toArray tX cX cX0_worstOnFeed 4 (some .int) RX0 g AX := F
  have hM := hV.1
  have hR := hV.2.1
  have hL0 := hV.2.2.1
  have hL1 := hV.2.2.2.1
  have hL2 := hV.2.2.2.2.1
  have hS20 := hV.2.2.2.2.2.1
  have hS21 := hV.2.2.2.2.2.2.1
  have hS22 := hV.2.2.2.2.2.2.2.1
  have hS2 := hV.2.2.2.2.2.2.2.2.1
  have hn8 : 0 ≤ τ 55 0 ∧ τ 55 0 ≤ 8 := ⟨hL2.1, hL2.2.2.2.1⟩
  have hn60 : 0 ≤ τ 53 0 ∧ τ 53 0 ≤ 60 := ⟨hL0.1, hL0.2.2.2.1⟩
  refine v_iconst F (pc := 0) dX0_worstOnFeed_0 ?_
  refine v_istore_n F (pc := 1) (lo' := [some (.ref (P 5)), some (.int (iI (fd))), some (.int (iI (0))), none]) dX0_worstOnFeed_1 (Nat.le_of_ble_eq_true rfl) rfl ?_
  refine v_iconst F (pc := 2) dX0_worstOnFeed_2 ?_
  refine v_istore_n F (pc := 3) (lo' := [some (.ref (P 5)), some (.int (iI (fd))), some (.int (iI (0))), some (.int (iI (0)))]) dX0_worstOnFeed_3 (Nat.le_of_ble_eq_true rfl) rfl ?_
  have LP4 : ∀ (N_ : Nat) (k : Int), (0 ≤ k) → (k ≤ (τ 55 0)) → ((τ 55 0) - k).toNat < N_ → VE pX l eX ({ frames := 2, cells := 0, slots := 0, locals := 40 }) sX mX ([.ref (P 5), .int (iI (fd))] : List Value).toArray bX tX cX 4 g AX (cheap g P K r cp b b' τ) 0 0 4 [some (.ref (P 5)), some (.int (iI (fd))), some (.int (iI (sm (τ (5 + 5 + fd.toNat)) k))), some (.int (iI (k)))] [] (pV (some (.int (iI (cAll τ (5 + 5 + fd.toNat))))) (cheap g P K r cp b b' τ)) (noX) 0 0 := by
    intro N_
    induction N_ with
    | zero => intro k _ _ hm_; exact absurd hm_ (Nat.not_lt_zero _)
    | succ N_ ih =>
      intro k hk0 hk1 hm_
      refine v_iload_n F (pc := 4) dX0_worstOnFeed_4 rfl ?_
      refine v_aload_n F (pc := 5) dX0_worstOnFeed_5 rfl ?_
      refine v_getf F (pc := 6) fd_X0_26_3 (v := .ref (P 1)) dX0_worstOnFeed_6 (ch_5 hk) rfl ?_
      refine v_getf F (pc := 9) fd_X0_85_6 (v := .ref (P 19)) dX0_worstOnFeed_9 (ch_1 hk) rfl ?_
      refine v_callVp F (pc := 12) (As := []) (rest := [.int (iI (k))]) ci_X0_91 ct_Jx4a65c_size_8abf5 cs_Jx4a65c_size_8abf5 (k_Jx4a65c_size_8abf5 l g (n := τ 55 0) (ch_19 hk)) dX0_worstOnFeed_12 (k0 := 2) rfl rfl (ch_19 hk) rfl rfl (Nat.le_of_ble_eq_true rfl) (Nat.le_of_ble_eq_true rfl) (Nat.le_of_ble_eq_true rfl) (Nat.le_of_ble_eq_true rfl) (Nat.le_of_ble_eq_true rfl) ?_ (fun _ _ z => z.elim)
      refine v_icmp_ge F (pc := 15) (a := k) (b := τ 55 0) 35 dX0_worstOnFeed_15 (by decide) (by omega) (by omega) (fun c_1 => ?_) (fun c_1 => ?_)
      · refine v_iload_n F (pc := 35) dX0_worstOnFeed_35 rfl ?_
        refine v_iret F (pc := 36) (z := (iI (sm (τ (5 + 5 + fd.toNat)) k))) dX0_worstOnFeed_36 rfl rfl (Nat.le_of_ble_eq_true rfl) (Nat.le_of_ble_eq_true rfl) ?_
        exact ⟨congrArg (fun z => some (Value.int (iI z))) (by rw [show k = τ 55 0 by omega]; rfl), rfl⟩
      · refine v_iload_n F (pc := 18) dX0_worstOnFeed_18 rfl ?_
        refine v_aload_n F (pc := 19) dX0_worstOnFeed_19 rfl ?_
        refine v_getf F (pc := 20) fd_X0_23_3 (v := .ref (P 9)) dX0_worstOnFeed_20 (ch_5 hk) rfl ?_
        refine v_iload_n F (pc := 23) dX0_worstOnFeed_23 rfl ?_
        refine v_aaldA F (pc := 24) (n := 2) (r := cout P 5) (z := fd) (q := P (5 + 5 + fd.toNat)) dX0_worstOnFeed_24 (ch_9 hk) (by omega) (by decide) (cout_fd (by omega)) ?_
        refine v_iload_n F (pc := 25) dX0_worstOnFeed_25 rfl ?_
        refine v_iald F (pc := 26) (n := 8) (f := τ (5 + 5 + fd.toNat)) (z := k) dX0_worstOnFeed_26 (ch_lf hk (Or.inl rfl) (z := fd) (by omega)) (by omega) (by decide) ?_
        refine v_iadd F (pc := 27) (a := sm (τ (5 + 5 + fd.toNat)) k) (b := (τ (5 + 5 + fd.toNat)) k) dX0_worstOnFeed_27 ?_
        refine v_istore_n F (pc := 28) (lo' := [some (.ref (P 5)), some (.int (iI (fd))), some (.int (iI ((sm (τ (5 + 5 + fd.toNat)) k) + ((τ (5 + 5 + fd.toNat)) k)))), some (.int (iI (k)))]) dX0_worstOnFeed_28 (Nat.le_of_ble_eq_true rfl) rfl ?_
        refine v_iinc F (pc := 29) (lo' := [some (.ref (P 5)), some (.int (iI (fd))), some (.int (iI ((sm (τ (5 + 5 + fd.toNat)) k) + ((τ (5 + 5 + fd.toNat)) k)))), some (.int (iI (k + 1)))]) dX0_worstOnFeed_29 rfl (Nat.le_of_ble_eq_true rfl) rfl ?_
        refine v_goto F (pc := 32) 4 dX0_worstOnFeed_32 (by decide) ?_
        have e_0 : sm (τ (5 + 5 + fd.toNat)) (k + 1) = (sm (τ (5 + 5 + fd.toNat)) k) + ((τ (5 + 5 + fd.toNat)) k) := by rw [sm_s _ hk0]
        have ih2 := ih (k + 1) (by omega) (by omega)  (by omega)
        rw [e_0] at ih2
        exact ih2
  exact LP4 _ 0 (Int.le_refl _) (by omega)  (Nat.lt_succ_self _)
-- X0_worstOnFeed
set_option maxRecDepth 100000 in
set_option maxHeartbeats 8000000 in
theorem k_X0_worstOnFeed_12 (l : Launch) (g : gT) {P K : Nat → Nat} {r : Nat → Int → Option Nat} {cp : Nat → Nat} {b b' : Nat} {τ : sT} (hk : cok P K cp) (hV : CV K r cp τ) (fd : Int) (hfd : 0 ≤ fd ∧ fd < 2) : CM l g yX0_worstOnFeed cX0_worstOnFeed 4 (some .int) ({ frames := 2, cells := 0, slots := 0, locals := 40 }) [.ref (P 12), .int (iI (fd))] (cheap g P K r cp b b' τ) (pV (some (.int (iI (cAll τ (12 + 5 + fd.toNat))))) (cheap g P K r cp b b' τ)) (noX) := by
  refine CM.of (lo := [some (.ref (P 12)), some (.int (iI (fd))), none, none]) (by decide) (Nat.le_of_ble_eq_true rfl) (by simp [Value.category]) rfl ?_
  intro pX eX sX mX bX tX cX AX F htab hmn
  have F : Fx pX l sX mX ([.ref (P 12), .int (iI (fd))] : List Value).toArray tX cX cX0_worstOnFeed 4 (some .int) RX0 g AX := F
  have hM := hV.1
  have hR := hV.2.1
  have hL0 := hV.2.2.1
  have hL1 := hV.2.2.2.1
  have hL2 := hV.2.2.2.2.1
  have hS20 := hV.2.2.2.2.2.1
  have hS21 := hV.2.2.2.2.2.2.1
  have hS22 := hV.2.2.2.2.2.2.2.1
  have hS2 := hV.2.2.2.2.2.2.2.2.1
  have hn8 : 0 ≤ τ 55 0 ∧ τ 55 0 ≤ 8 := ⟨hL2.1, hL2.2.2.2.1⟩
  have hn60 : 0 ≤ τ 53 0 ∧ τ 53 0 ≤ 60 := ⟨hL0.1, hL0.2.2.2.1⟩
  refine v_iconst F (pc := 0) dX0_worstOnFeed_0 ?_
  refine v_istore_n F (pc := 1) (lo' := [some (.ref (P 12)), some (.int (iI (fd))), some (.int (iI (0))), none]) dX0_worstOnFeed_1 (Nat.le_of_ble_eq_true rfl) rfl ?_
  refine v_iconst F (pc := 2) dX0_worstOnFeed_2 ?_
  refine v_istore_n F (pc := 3) (lo' := [some (.ref (P 12)), some (.int (iI (fd))), some (.int (iI (0))), some (.int (iI (0)))]) dX0_worstOnFeed_3 (Nat.le_of_ble_eq_true rfl) rfl ?_
  have LP4 : ∀ (N_ : Nat) (k : Int), (0 ≤ k) → (k ≤ (τ 55 0)) → ((τ 55 0) - k).toNat < N_ → VE pX l eX ({ frames := 2, cells := 0, slots := 0, locals := 40 }) sX mX ([.ref (P 12), .int (iI (fd))] : List Value).toArray bX tX cX 4 g AX (cheap g P K r cp b b' τ) 0 0 4 [some (.ref (P 12)), some (.int (iI (fd))), some (.int (iI (sm (τ (12 + 5 + fd.toNat)) k))), some (.int (iI (k)))] [] (pV (some (.int (iI (cAll τ (12 + 5 + fd.toNat))))) (cheap g P K r cp b b' τ)) (noX) 0 0 := by
    intro N_
    induction N_ with
    | zero => intro k _ _ hm_; exact absurd hm_ (Nat.not_lt_zero _)
    | succ N_ ih =>
      intro k hk0 hk1 hm_
      refine v_iload_n F (pc := 4) dX0_worstOnFeed_4 rfl ?_
      refine v_aload_n F (pc := 5) dX0_worstOnFeed_5 rfl ?_
      refine v_getf F (pc := 6) fd_X0_26_3 (v := .ref (P 1)) dX0_worstOnFeed_6 (ch_12 hk) rfl ?_
      refine v_getf F (pc := 9) fd_X0_85_6 (v := .ref (P 19)) dX0_worstOnFeed_9 (ch_1 hk) rfl ?_
      refine v_callVp F (pc := 12) (As := []) (rest := [.int (iI (k))]) ci_X0_91 ct_Jx4a65c_size_8abf5 cs_Jx4a65c_size_8abf5 (k_Jx4a65c_size_8abf5 l g (n := τ 55 0) (ch_19 hk)) dX0_worstOnFeed_12 (k0 := 2) rfl rfl (ch_19 hk) rfl rfl (Nat.le_of_ble_eq_true rfl) (Nat.le_of_ble_eq_true rfl) (Nat.le_of_ble_eq_true rfl) (Nat.le_of_ble_eq_true rfl) (Nat.le_of_ble_eq_true rfl) ?_ (fun _ _ z => z.elim)
      refine v_icmp_ge F (pc := 15) (a := k) (b := τ 55 0) 35 dX0_worstOnFeed_15 (by decide) (by omega) (by omega) (fun c_1 => ?_) (fun c_1 => ?_)
      · refine v_iload_n F (pc := 35) dX0_worstOnFeed_35 rfl ?_
        refine v_iret F (pc := 36) (z := (iI (sm (τ (12 + 5 + fd.toNat)) k))) dX0_worstOnFeed_36 rfl rfl (Nat.le_of_ble_eq_true rfl) (Nat.le_of_ble_eq_true rfl) ?_
        exact ⟨congrArg (fun z => some (Value.int (iI z))) (by rw [show k = τ 55 0 by omega]; rfl), rfl⟩
      · refine v_iload_n F (pc := 18) dX0_worstOnFeed_18 rfl ?_
        refine v_aload_n F (pc := 19) dX0_worstOnFeed_19 rfl ?_
        refine v_getf F (pc := 20) fd_X0_23_3 (v := .ref (P 16)) dX0_worstOnFeed_20 (ch_12 hk) rfl ?_
        refine v_iload_n F (pc := 23) dX0_worstOnFeed_23 rfl ?_
        refine v_aaldA F (pc := 24) (n := 2) (r := cout P 12) (z := fd) (q := P (12 + 5 + fd.toNat)) dX0_worstOnFeed_24 (ch_16 hk) (by omega) (by decide) (cout_fd (by omega)) ?_
        refine v_iload_n F (pc := 25) dX0_worstOnFeed_25 rfl ?_
        refine v_iald F (pc := 26) (n := 8) (f := τ (12 + 5 + fd.toNat)) (z := k) dX0_worstOnFeed_26 (ch_lf hk (Or.inr rfl) (z := fd) (by omega)) (by omega) (by decide) ?_
        refine v_iadd F (pc := 27) (a := sm (τ (12 + 5 + fd.toNat)) k) (b := (τ (12 + 5 + fd.toNat)) k) dX0_worstOnFeed_27 ?_
        refine v_istore_n F (pc := 28) (lo' := [some (.ref (P 12)), some (.int (iI (fd))), some (.int (iI ((sm (τ (12 + 5 + fd.toNat)) k) + ((τ (12 + 5 + fd.toNat)) k)))), some (.int (iI (k)))]) dX0_worstOnFeed_28 (Nat.le_of_ble_eq_true rfl) rfl ?_
        refine v_iinc F (pc := 29) (lo' := [some (.ref (P 12)), some (.int (iI (fd))), some (.int (iI ((sm (τ (12 + 5 + fd.toNat)) k) + ((τ (12 + 5 + fd.toNat)) k)))), some (.int (iI (k + 1)))]) dX0_worstOnFeed_29 rfl (Nat.le_of_ble_eq_true rfl) rfl ?_
        refine v_goto F (pc := 32) 4 dX0_worstOnFeed_32 (by decide) ?_
        have e_0 : sm (τ (12 + 5 + fd.toNat)) (k + 1) = (sm (τ (12 + 5 + fd.toNat)) k) + ((τ (12 + 5 + fd.toNat)) k) := by rw [sm_s _ hk0]
        have ih2 := ih (k + 1) (by omega) (by omega)  (by omega)
        rw [e_0] at ih2
        exact ih2
  exact LP4 _ 0 (Int.le_refl _) (by omega)  (Nat.lt_succ_self _)
theorem k_X0_worstOnFeed (l : Launch) (g : gT) {w : Nat} (hw : w = 5 ∨ w = 12) {P K : Nat → Nat} {r : Nat → Int → Option Nat} {cp : Nat → Nat} {b b' : Nat} {τ : sT} (hk : cok P K cp) (hV : CV K r cp τ) (fd : Int) (hfd : 0 ≤ fd ∧ fd < 2) : CM l g yX0_worstOnFeed cX0_worstOnFeed 4 (some .int) { frames := 2, cells := 0, slots := 0, locals := 40 } [.ref (P w), .int (iI (fd))] (cheap g P K r cp b b' τ) (pV (some (.int (iI (cAll τ (w + 5 + fd.toNat))))) (cheap g P K r cp b b' τ)) (noX) := by
  rcases hw with rfl | rfl
  · exact k_X0_worstOnFeed_5 l g hk hV fd hfd
  · exact k_X0_worstOnFeed_12 l g hk hV fd hfd
-- X0_bearsMore
set_option maxRecDepth 100000 in
set_option maxHeartbeats 8000000 in
theorem k_X0_bearsMore_5 (l : Launch) (g : gT) {P K : Nat → Nat} {r : Nat → Int → Option Nat} {cp : Nat → Nat} {b b' : Nat} {τ : sT} (hk : cok P K cp) (hV : CV K r cp τ) (hW : Wb τ 5) (k : Int) (hk2 : 0 ≤ k ∧ k < τ 55 0) (fd : Int) (hfd : 0 ≤ fd ∧ fd < 2) (more : Int) (hmo : -100000 ≤ more ∧ more ≤ 100000) : CM l g yX0_bearsMore cX0_bearsMore 4 (some .boolean) ({ frames := 4, cells := 0, slots := 0, locals := 84 }) [.ref (P 5), .int (iI (k)), .int (iI (fd)), .int (iI (more))] (cheap g P K r cp b b' τ) (pV (some (.int (iI (bI (cBM r τ (5 + 5 + fd.toNat) k fd more))))) (cheap g P K r cp b b' τ)) (noX) := by
  refine CM.of (lo := [some (.ref (P 5)), some (.int (iI (k))), some (.int (iI (fd))), some (.int (iI (more)))]) (by decide) (Nat.le_of_ble_eq_true rfl) (by simp [Value.category]) rfl ?_
  intro pX eX sX mX bX tX cX AX F htab hmn
  have F : Fx pX l sX mX ([.ref (P 5), .int (iI (k)), .int (iI (fd)), .int (iI (more))] : List Value).toArray tX cX cX0_bearsMore 4 (some .boolean) RX0 g AX := F
  have hM := hV.1
  have hR := hV.2.1
  have hL0 := hV.2.2.1
  have hL1 := hV.2.2.2.1
  have hL2 := hV.2.2.2.2.1
  have hS20 := hV.2.2.2.2.2.1
  have hS21 := hV.2.2.2.2.2.2.1
  have hS22 := hV.2.2.2.2.2.2.2.1
  have hS2 := hV.2.2.2.2.2.2.2.2.1
  have hn8 : 0 ≤ τ 55 0 ∧ τ 55 0 ≤ 8 := ⟨hL2.1, hL2.2.2.2.1⟩
  have hn60 : 0 ≤ τ 53 0 ∧ τ 53 0 ≤ 60 := ⟨hL0.1, hL0.2.2.2.1⟩
  have hW1 : ∀ z : Int, 0 ≤ z → z < 160 → -1 ≤ τ 6 z ∧ τ 6 z ≤ 1000000 := hW.1
  have hW2 : ∀ z : Int, 0 ≤ z → z < 8 → -1000000 ≤ τ 7 z ∧ τ 7 z ≤ 1000000 := hW.2.1
  have hW3 : ∀ z : Int, 0 ≤ z → z < 8 → -1000000 ≤ τ 8 z ∧ τ 8 z ≤ 1000000 := hW.2.2.1
  have hW5 : ∀ z : Int, 0 ≤ z → z < 8 → -1000000 ≤ τ 10 z ∧ τ 10 z ≤ 1000000 := hW.2.2.2.1
  have hW6 : ∀ z : Int, 0 ≤ z → z < 8 → -1000000 ≤ τ 11 z ∧ τ 11 z ≤ 1000000 := hW.2.2.2.2
  have hWf : ∀ z : Int, 0 ≤ z → z < 8 → -1000000 ≤ τ (5 + 5 + fd.toNat) z ∧ τ (5 + 5 + fd.toNat) z ≤ 1000000 := by rcases (show fd = 0 ∨ fd = 1 by omega) with rfl | rfl; exact hW5; exact hW6
  have hkb := hWf k (by omega) (by omega)
  refine v_aload_n F (pc := 0) dX0_bearsMore_0 rfl ?_
  refine v_getf F (pc := 1) fd_X0_23_3 (v := .ref (P 9)) dX0_bearsMore_1 (ch_5 hk) rfl ?_
  refine v_iload_n F (pc := 4) dX0_bearsMore_4 rfl ?_
  refine v_aaldA F (pc := 5) (n := 2) (r := cout P 5) (z := fd) (q := P (5 + 5 + fd.toNat)) dX0_bearsMore_5 (ch_9 hk) (by omega) (by decide) (cout_fd (by omega)) ?_
  refine v_iload_n F (pc := 6) dX0_bearsMore_6 rfl ?_
  refine v_iald F (pc := 7) (n := 8) (f := τ (5 + 5 + fd.toNat)) (z := k) dX0_bearsMore_7 (ch_lf hk (Or.inl rfl) (z := fd) (by omega)) (by omega) (by decide) ?_
  refine v_iload_n F (pc := 8) dX0_bearsMore_8 rfl ?_
  refine v_iadd F (pc := 9) (a := (τ (5 + 5 + fd.toNat)) k) (b := more) dX0_bearsMore_9 ?_
  refine v_aload_n F (pc := 10) dX0_bearsMore_10 rfl ?_
  refine v_getf F (pc := 11) fd_X0_26_3 (v := .ref (P 1)) dX0_bearsMore_11 (ch_5 hk) rfl ?_
  refine v_getf F (pc := 14) fd_X0_85_6 (v := .ref (P 19)) dX0_bearsMore_14 (ch_1 hk) rfl ?_
  refine v_iload_n F (pc := 17) dX0_bearsMore_17 rfl ?_
  refine v_callVp F (pc := 18) (As := [.int (iI (k))]) (rest := [.int (iI (((τ (5 + 5 + fd.toNat)) k) + more))]) ci_X0_97 ct_Jx4a65c_get_915e3 cs_Jx4a65c_get_915e3 (kl_get2 l g (τ := τ) (r := r) (cp := cp) hk hL2 (k := k) (by omega) (show (k : Int) < τ 55 0 by omega)) dX0_bearsMore_18 (k0 := 2) rfl rfl (ch_19 hk) rfl rfl (Nat.le_of_ble_eq_true rfl) (Nat.le_of_ble_eq_true rfl) (Nat.le_of_ble_eq_true rfl) (Nat.le_of_ble_eq_true rfl) (Nat.le_of_ble_eq_true rfl) ?_ (fun _ _ z => z.elim)
  have kq_1 : K (ad r 2 k) = 2 := (hL2.2.2.2.2 k (by omega) (show (k : Int) < τ 55 0 by omega)).2
  have kq_1b := hR _ kq_1
  refine v_castS F (pc := 21) (ci := 5) rfl tk_X0_101 dX0_bearsMore_21 (ch_r hk kq_1) ?_
  refine v_getf F (pc := 24) fd_X0_140_5 (v := .int (iI (τ 43 (ad r 2 k)))) dX0_bearsMore_24 (ch_r hk kq_1) rfl ?_
  refine v_icmp_gt F (pc := 27) (a := ((τ (5 + 5 + fd.toNat)) k) + more) (b := τ 43 (ad r 2 k)) 53 dX0_bearsMore_27 (by decide) (by omega) (by omega) (fun c_2 => ?_) (fun c_2 => ?_)
  · refine v_iconst F (pc := 53) dX0_bearsMore_53 ?_
    refine v_iret F (pc := 54) (z := (iI (0))) dX0_bearsMore_54 rfl (by first | rfl | exact nar_bI _ | decide) (Nat.le_of_ble_eq_true rfl) (Nat.le_of_ble_eq_true rfl) ?_
    exact ⟨congrArg (fun z => some (Value.int (iI z))) (show (0 : Int) = bI (cBM r τ (5 + 5 + fd.toNat) k fd more) by simp only [cBM, bI, Bool.and_eq_true, Bool.or_eq_true, Bool.not_eq_true, decide_eq_true_eq, decide_eq_false_iff_not, decide_not]; split <;> first | omega | simp_all), rfl⟩
  · refine v_aload_n F (pc := 30) dX0_bearsMore_30 rfl ?_
    refine v_iload_n F (pc := 31) dX0_bearsMore_31 rfl ?_
    refine v_callVp F (pc := 32) (As := [.int (iI (fd))]) (rest := []) ci_X0_143 ct_X0_worstOnFeed cs_X0_worstOnFeed (k_X0_worstOnFeed l g (Or.inl rfl) hk (τ := τ) (K := K) (r := r) (cp := cp) (b := b) (b' := b') hV fd (by omega)) dX0_bearsMore_32 (k0 := 3) rfl rfl (ch_5 hk) rfl rfl (Nat.le_of_ble_eq_true rfl) (Nat.le_of_ble_eq_true rfl) (Nat.le_of_ble_eq_true rfl) (Nat.le_of_ble_eq_true rfl) (Nat.le_of_ble_eq_true rfl) ?_ (fun _ _ z => z.elim)
    have rg_3 : -8000000 ≤ cAll τ (5 + 5 + fd.toNat) ∧ cAll τ (5 + 5 + fd.toNat) ≤ 8000000 := cAll_rng hn8.1 hn8.2 hWf
    refine v_iload_n F (pc := 35) dX0_bearsMore_35 rfl ?_
    refine v_iadd F (pc := 36) (a := cAll τ (5 + 5 + fd.toNat)) (b := more) dX0_bearsMore_36 ?_
    refine v_aload_n F (pc := 37) dX0_bearsMore_37 rfl ?_
    refine v_getf F (pc := 38) fd_X0_26_3 (v := .ref (P 1)) dX0_bearsMore_38 (ch_5 hk) rfl ?_
    refine v_getf F (pc := 41) fd_X0_146_6 (v := .ref (P 22)) dX0_bearsMore_41 (ch_1 hk) rfl ?_
    refine v_iload_n F (pc := 44) dX0_bearsMore_44 rfl ?_
    refine v_iald F (pc := 45) (n := 2) (f := τ 22) (z := fd) dX0_bearsMore_45 (ch_22 hk) (by omega) (by decide) ?_
    have bd_4 := hS22 fd (by omega) (by omega)
    refine v_icmp_gt F (pc := 46) (a := (cAll τ (5 + 5 + fd.toNat)) + more) (b := (τ 22) fd) 53 dX0_bearsMore_46 (by decide) (by omega) (by omega) (fun c_5 => ?_) (fun c_5 => ?_)
    · refine v_iconst F (pc := 53) dX0_bearsMore_53 ?_
      refine v_iret F (pc := 54) (z := (iI (0))) dX0_bearsMore_54 rfl (by first | rfl | exact nar_bI _ | decide) (Nat.le_of_ble_eq_true rfl) (Nat.le_of_ble_eq_true rfl) ?_
      exact ⟨congrArg (fun z => some (Value.int (iI z))) (show (0 : Int) = bI (cBM r τ (5 + 5 + fd.toNat) k fd more) by simp only [cBM, bI, Bool.and_eq_true, Bool.or_eq_true, Bool.not_eq_true, decide_eq_true_eq, decide_eq_false_iff_not, decide_not]; split <;> first | omega | simp_all), rfl⟩
    · refine v_iconst F (pc := 49) dX0_bearsMore_49 ?_
      refine v_goto F (pc := 50) 54 dX0_bearsMore_50 (by decide) ?_
      refine v_iret F (pc := 54) (z := (iI (1))) dX0_bearsMore_54 rfl (by first | rfl | exact nar_bI _ | decide) (Nat.le_of_ble_eq_true rfl) (Nat.le_of_ble_eq_true rfl) ?_
      exact ⟨congrArg (fun z => some (Value.int (iI z))) (show (1 : Int) = bI (cBM r τ (5 + 5 + fd.toNat) k fd more) by simp only [cBM, bI, Bool.and_eq_true, Bool.or_eq_true, Bool.not_eq_true, decide_eq_true_eq, decide_eq_false_iff_not, decide_not]; split <;> first | omega | simp_all), rfl⟩
-- X0_bearsMore
set_option maxRecDepth 100000 in
set_option maxHeartbeats 8000000 in
theorem k_X0_bearsMore_12 (l : Launch) (g : gT) {P K : Nat → Nat} {r : Nat → Int → Option Nat} {cp : Nat → Nat} {b b' : Nat} {τ : sT} (hk : cok P K cp) (hV : CV K r cp τ) (hW : Wb τ 12) (k : Int) (hk2 : 0 ≤ k ∧ k < τ 55 0) (fd : Int) (hfd : 0 ≤ fd ∧ fd < 2) (more : Int) (hmo : -100000 ≤ more ∧ more ≤ 100000) : CM l g yX0_bearsMore cX0_bearsMore 4 (some .boolean) ({ frames := 4, cells := 0, slots := 0, locals := 84 }) [.ref (P 12), .int (iI (k)), .int (iI (fd)), .int (iI (more))] (cheap g P K r cp b b' τ) (pV (some (.int (iI (bI (cBM r τ (12 + 5 + fd.toNat) k fd more))))) (cheap g P K r cp b b' τ)) (noX) := by
  refine CM.of (lo := [some (.ref (P 12)), some (.int (iI (k))), some (.int (iI (fd))), some (.int (iI (more)))]) (by decide) (Nat.le_of_ble_eq_true rfl) (by simp [Value.category]) rfl ?_
  intro pX eX sX mX bX tX cX AX F htab hmn
  have F : Fx pX l sX mX ([.ref (P 12), .int (iI (k)), .int (iI (fd)), .int (iI (more))] : List Value).toArray tX cX cX0_bearsMore 4 (some .boolean) RX0 g AX := F
  have hM := hV.1
  have hR := hV.2.1
  have hL0 := hV.2.2.1
  have hL1 := hV.2.2.2.1
  have hL2 := hV.2.2.2.2.1
  have hS20 := hV.2.2.2.2.2.1
  have hS21 := hV.2.2.2.2.2.2.1
  have hS22 := hV.2.2.2.2.2.2.2.1
  have hS2 := hV.2.2.2.2.2.2.2.2.1
  have hn8 : 0 ≤ τ 55 0 ∧ τ 55 0 ≤ 8 := ⟨hL2.1, hL2.2.2.2.1⟩
  have hn60 : 0 ≤ τ 53 0 ∧ τ 53 0 ≤ 60 := ⟨hL0.1, hL0.2.2.2.1⟩
  have hW1 : ∀ z : Int, 0 ≤ z → z < 160 → -1 ≤ τ 13 z ∧ τ 13 z ≤ 1000000 := hW.1
  have hW2 : ∀ z : Int, 0 ≤ z → z < 8 → -1000000 ≤ τ 14 z ∧ τ 14 z ≤ 1000000 := hW.2.1
  have hW3 : ∀ z : Int, 0 ≤ z → z < 8 → -1000000 ≤ τ 15 z ∧ τ 15 z ≤ 1000000 := hW.2.2.1
  have hW5 : ∀ z : Int, 0 ≤ z → z < 8 → -1000000 ≤ τ 17 z ∧ τ 17 z ≤ 1000000 := hW.2.2.2.1
  have hW6 : ∀ z : Int, 0 ≤ z → z < 8 → -1000000 ≤ τ 18 z ∧ τ 18 z ≤ 1000000 := hW.2.2.2.2
  have hWf : ∀ z : Int, 0 ≤ z → z < 8 → -1000000 ≤ τ (12 + 5 + fd.toNat) z ∧ τ (12 + 5 + fd.toNat) z ≤ 1000000 := by rcases (show fd = 0 ∨ fd = 1 by omega) with rfl | rfl; exact hW5; exact hW6
  have hkb := hWf k (by omega) (by omega)
  refine v_aload_n F (pc := 0) dX0_bearsMore_0 rfl ?_
  refine v_getf F (pc := 1) fd_X0_23_3 (v := .ref (P 16)) dX0_bearsMore_1 (ch_12 hk) rfl ?_
  refine v_iload_n F (pc := 4) dX0_bearsMore_4 rfl ?_
  refine v_aaldA F (pc := 5) (n := 2) (r := cout P 12) (z := fd) (q := P (12 + 5 + fd.toNat)) dX0_bearsMore_5 (ch_16 hk) (by omega) (by decide) (cout_fd (by omega)) ?_
  refine v_iload_n F (pc := 6) dX0_bearsMore_6 rfl ?_
  refine v_iald F (pc := 7) (n := 8) (f := τ (12 + 5 + fd.toNat)) (z := k) dX0_bearsMore_7 (ch_lf hk (Or.inr rfl) (z := fd) (by omega)) (by omega) (by decide) ?_
  refine v_iload_n F (pc := 8) dX0_bearsMore_8 rfl ?_
  refine v_iadd F (pc := 9) (a := (τ (12 + 5 + fd.toNat)) k) (b := more) dX0_bearsMore_9 ?_
  refine v_aload_n F (pc := 10) dX0_bearsMore_10 rfl ?_
  refine v_getf F (pc := 11) fd_X0_26_3 (v := .ref (P 1)) dX0_bearsMore_11 (ch_12 hk) rfl ?_
  refine v_getf F (pc := 14) fd_X0_85_6 (v := .ref (P 19)) dX0_bearsMore_14 (ch_1 hk) rfl ?_
  refine v_iload_n F (pc := 17) dX0_bearsMore_17 rfl ?_
  refine v_callVp F (pc := 18) (As := [.int (iI (k))]) (rest := [.int (iI (((τ (12 + 5 + fd.toNat)) k) + more))]) ci_X0_97 ct_Jx4a65c_get_915e3 cs_Jx4a65c_get_915e3 (kl_get2 l g (τ := τ) (r := r) (cp := cp) hk hL2 (k := k) (by omega) (show (k : Int) < τ 55 0 by omega)) dX0_bearsMore_18 (k0 := 2) rfl rfl (ch_19 hk) rfl rfl (Nat.le_of_ble_eq_true rfl) (Nat.le_of_ble_eq_true rfl) (Nat.le_of_ble_eq_true rfl) (Nat.le_of_ble_eq_true rfl) (Nat.le_of_ble_eq_true rfl) ?_ (fun _ _ z => z.elim)
  have kq_1 : K (ad r 2 k) = 2 := (hL2.2.2.2.2 k (by omega) (show (k : Int) < τ 55 0 by omega)).2
  have kq_1b := hR _ kq_1
  refine v_castS F (pc := 21) (ci := 5) rfl tk_X0_101 dX0_bearsMore_21 (ch_r hk kq_1) ?_
  refine v_getf F (pc := 24) fd_X0_140_5 (v := .int (iI (τ 43 (ad r 2 k)))) dX0_bearsMore_24 (ch_r hk kq_1) rfl ?_
  refine v_icmp_gt F (pc := 27) (a := ((τ (12 + 5 + fd.toNat)) k) + more) (b := τ 43 (ad r 2 k)) 53 dX0_bearsMore_27 (by decide) (by omega) (by omega) (fun c_2 => ?_) (fun c_2 => ?_)
  · refine v_iconst F (pc := 53) dX0_bearsMore_53 ?_
    refine v_iret F (pc := 54) (z := (iI (0))) dX0_bearsMore_54 rfl (by first | rfl | exact nar_bI _ | decide) (Nat.le_of_ble_eq_true rfl) (Nat.le_of_ble_eq_true rfl) ?_
    exact ⟨congrArg (fun z => some (Value.int (iI z))) (show (0 : Int) = bI (cBM r τ (12 + 5 + fd.toNat) k fd more) by simp only [cBM, bI, Bool.and_eq_true, Bool.or_eq_true, Bool.not_eq_true, decide_eq_true_eq, decide_eq_false_iff_not, decide_not]; split <;> first | omega | simp_all), rfl⟩
  · refine v_aload_n F (pc := 30) dX0_bearsMore_30 rfl ?_
    refine v_iload_n F (pc := 31) dX0_bearsMore_31 rfl ?_
    refine v_callVp F (pc := 32) (As := [.int (iI (fd))]) (rest := []) ci_X0_143 ct_X0_worstOnFeed cs_X0_worstOnFeed (k_X0_worstOnFeed l g (Or.inr rfl) hk (τ := τ) (K := K) (r := r) (cp := cp) (b := b) (b' := b') hV fd (by omega)) dX0_bearsMore_32 (k0 := 3) rfl rfl (ch_12 hk) rfl rfl (Nat.le_of_ble_eq_true rfl) (Nat.le_of_ble_eq_true rfl) (Nat.le_of_ble_eq_true rfl) (Nat.le_of_ble_eq_true rfl) (Nat.le_of_ble_eq_true rfl) ?_ (fun _ _ z => z.elim)
    have rg_3 : -8000000 ≤ cAll τ (12 + 5 + fd.toNat) ∧ cAll τ (12 + 5 + fd.toNat) ≤ 8000000 := cAll_rng hn8.1 hn8.2 hWf
    refine v_iload_n F (pc := 35) dX0_bearsMore_35 rfl ?_
    refine v_iadd F (pc := 36) (a := cAll τ (12 + 5 + fd.toNat)) (b := more) dX0_bearsMore_36 ?_
    refine v_aload_n F (pc := 37) dX0_bearsMore_37 rfl ?_
    refine v_getf F (pc := 38) fd_X0_26_3 (v := .ref (P 1)) dX0_bearsMore_38 (ch_12 hk) rfl ?_
    refine v_getf F (pc := 41) fd_X0_146_6 (v := .ref (P 22)) dX0_bearsMore_41 (ch_1 hk) rfl ?_
    refine v_iload_n F (pc := 44) dX0_bearsMore_44 rfl ?_
    refine v_iald F (pc := 45) (n := 2) (f := τ 22) (z := fd) dX0_bearsMore_45 (ch_22 hk) (by omega) (by decide) ?_
    have bd_4 := hS22 fd (by omega) (by omega)
    refine v_icmp_gt F (pc := 46) (a := (cAll τ (12 + 5 + fd.toNat)) + more) (b := (τ 22) fd) 53 dX0_bearsMore_46 (by decide) (by omega) (by omega) (fun c_5 => ?_) (fun c_5 => ?_)
    · refine v_iconst F (pc := 53) dX0_bearsMore_53 ?_
      refine v_iret F (pc := 54) (z := (iI (0))) dX0_bearsMore_54 rfl (by first | rfl | exact nar_bI _ | decide) (Nat.le_of_ble_eq_true rfl) (Nat.le_of_ble_eq_true rfl) ?_
      exact ⟨congrArg (fun z => some (Value.int (iI z))) (show (0 : Int) = bI (cBM r τ (12 + 5 + fd.toNat) k fd more) by simp only [cBM, bI, Bool.and_eq_true, Bool.or_eq_true, Bool.not_eq_true, decide_eq_true_eq, decide_eq_false_iff_not, decide_not]; split <;> first | omega | simp_all), rfl⟩
    · refine v_iconst F (pc := 49) dX0_bearsMore_49 ?_
      refine v_goto F (pc := 50) 54 dX0_bearsMore_50 (by decide) ?_
      refine v_iret F (pc := 54) (z := (iI (1))) dX0_bearsMore_54 rfl (by first | rfl | exact nar_bI _ | decide) (Nat.le_of_ble_eq_true rfl) (Nat.le_of_ble_eq_true rfl) ?_
      exact ⟨congrArg (fun z => some (Value.int (iI z))) (show (1 : Int) = bI (cBM r τ (12 + 5 + fd.toNat) k fd more) by simp only [cBM, bI, Bool.and_eq_true, Bool.or_eq_true, Bool.not_eq_true, decide_eq_true_eq, decide_eq_false_iff_not, decide_not]; split <;> first | omega | simp_all), rfl⟩
theorem k_X0_bearsMore (l : Launch) (g : gT) {w : Nat} (hw : w = 5 ∨ w = 12) {P K : Nat → Nat} {r : Nat → Int → Option Nat} {cp : Nat → Nat} {b b' : Nat} {τ : sT} (hk : cok P K cp) (hV : CV K r cp τ) (hW : Wb τ w) (k : Int) (hk2 : 0 ≤ k ∧ k < τ 55 0) (fd : Int) (hfd : 0 ≤ fd ∧ fd < 2) (more : Int) (hmo : -100000 ≤ more ∧ more ≤ 100000) : CM l g yX0_bearsMore cX0_bearsMore 4 (some .boolean) { frames := 4, cells := 0, slots := 0, locals := 84 } [.ref (P w), .int (iI (k)), .int (iI (fd)), .int (iI (more))] (cheap g P K r cp b b' τ) (pV (some (.int (iI (bI (cBM r τ (w + 5 + fd.toNat) k fd more))))) (cheap g P K r cp b b' τ)) (noX) := by
  rcases hw with rfl | rfl
  · exact k_X0_bearsMore_5 l g hk hV hW k hk2 fd hfd more hmo
  · exact k_X0_bearsMore_12 l g hk hV hW k hk2 fd hfd more hmo
-- X0_bears
set_option maxRecDepth 100000 in
set_option maxHeartbeats 8000000 in
theorem k_X0_bears_5 (l : Launch) (g : gT) {P K : Nat → Nat} {r : Nat → Int → Option Nat} {cp : Nat → Nat} {b b' : Nat} {τ : sT} (hk : cok P K cp) (hV : CV K r cp τ) (hW : Wb τ 5) (k : Int) (hk2 : 0 ≤ k ∧ k < τ 55 0) {m : Nat} (hm : K m = 1) : CM l g yX0_bears cX0_bears 5 (some .boolean) ({ frames := 6, cells := 0, slots := 0, locals := 129 }) [.ref (P 5), .int (iI (k)), .ref m] (cheap g P K r cp b b' τ) (pV (some (.int (iI (bI (cBE r τ 5 k m))))) (cheap g P K r cp b b' τ)) (noX) := by
  refine CM.of (lo := [some (.ref (P 5)), some (.int (iI (k))), some (.ref m), none, none]) (by decide) (Nat.le_of_ble_eq_true rfl) (by simp [Value.category]) rfl ?_
  intro pX eX sX mX bX tX cX AX F htab hmn
  have F : Fx pX l sX mX ([.ref (P 5), .int (iI (k)), .ref m] : List Value).toArray tX cX cX0_bears 5 (some .boolean) RX0 g AX := F
  have hM := hV.1
  have hR := hV.2.1
  have hL0 := hV.2.2.1
  have hL1 := hV.2.2.2.1
  have hL2 := hV.2.2.2.2.1
  have hS20 := hV.2.2.2.2.2.1
  have hS21 := hV.2.2.2.2.2.2.1
  have hS22 := hV.2.2.2.2.2.2.2.1
  have hS2 := hV.2.2.2.2.2.2.2.2.1
  have hn8 : 0 ≤ τ 55 0 ∧ τ 55 0 ≤ 8 := ⟨hL2.1, hL2.2.2.2.1⟩
  have hn60 : 0 ≤ τ 53 0 ∧ τ 53 0 ≤ 60 := ⟨hL0.1, hL0.2.2.2.1⟩
  have hW1 : ∀ z : Int, 0 ≤ z → z < 160 → -1 ≤ τ 6 z ∧ τ 6 z ≤ 1000000 := hW.1
  have hW2 : ∀ z : Int, 0 ≤ z → z < 8 → -1000000 ≤ τ 7 z ∧ τ 7 z ≤ 1000000 := hW.2.1
  have hW3 : ∀ z : Int, 0 ≤ z → z < 8 → -1000000 ≤ τ 8 z ∧ τ 8 z ≤ 1000000 := hW.2.2.1
  have hW5 : ∀ z : Int, 0 ≤ z → z < 8 → -1000000 ≤ τ 10 z ∧ τ 10 z ≤ 1000000 := hW.2.2.2.1
  have hW6 : ∀ z : Int, 0 ≤ z → z < 8 → -1000000 ≤ τ 11 z ∧ τ 11 z ≤ 1000000 := hW.2.2.2.2
  have hmb := hM m hm
  have hp0 := m_pw_2000 (c := τ 34 m) (f := 0) hmb.2.2.1
  have hp1 := m_pw_2000 (c := τ 34 m) (f := 1) hmb.2.2.1
  refine v_aload_n F (pc := 0) dX0_bears_0 rfl ?_
  refine v_getf F (pc := 1) fd_X0_26_3 (v := .ref (P 1)) dX0_bears_1 (ch_5 hk) rfl ?_
  refine v_getf F (pc := 4) fd_X0_85_6 (v := .ref (P 19)) dX0_bears_4 (ch_1 hk) rfl ?_
  refine v_iload_n F (pc := 7) dX0_bears_7 rfl ?_
  refine v_callVp F (pc := 8) (As := [.int (iI (k))]) (rest := []) ci_X0_97 ct_Jx4a65c_get_915e3 cs_Jx4a65c_get_915e3 (kl_get2 l g (τ := τ) (r := r) (cp := cp) hk hL2 (k := k) (by omega) (show (k : Int) < τ 55 0 by omega)) dX0_bears_8 (k0 := 2) rfl rfl (ch_19 hk) rfl rfl (Nat.le_of_ble_eq_true rfl) (Nat.le_of_ble_eq_true rfl) (Nat.le_of_ble_eq_true rfl) (Nat.le_of_ble_eq_true rfl) (Nat.le_of_ble_eq_true rfl) ?_ (fun _ _ z => z.elim)
  have kq_1 : K (ad r 2 k) = 2 := (hL2.2.2.2.2 k (by omega) (show (k : Int) < τ 55 0 by omega)).2
  have kq_1b := hR _ kq_1
  refine v_castS F (pc := 11) (ci := 5) rfl tk_X0_101 dX0_bears_11 (ch_r hk kq_1) ?_
  refine v_astore_n F (pc := 14) (lo' := [some (.ref (P 5)), some (.int (iI (k))), some (.ref m), some (.ref (ad r 2 k)), none]) dX0_bears_14 (Nat.le_of_ble_eq_true rfl) rfl ?_
  refine v_aload_n F (pc := 15) dX0_bears_15 rfl ?_
  refine v_getf F (pc := 16) fd_X0_103_5 (v := .int (iI (τ 40 (ad r 2 k)))) dX0_bears_16 (ch_r hk kq_1) rfl ?_
  refine v_istore F (pc := 19) (lo' := [some (.ref (P 5)), some (.int (iI (k))), some (.ref m), some (.ref (ad r 2 k)), some (.int (iI (τ 40 (ad r 2 k))))]) dX0_bears_19 (Nat.le_of_ble_eq_true rfl) rfl ?_
  refine v_aload_n F (pc := 21) dX0_bears_21 rfl ?_
  refine v_getf F (pc := 22) fd_X0_15_3 (v := .ref (P 7)) dX0_bears_22 (ch_5 hk) rfl ?_
  refine v_iload_n F (pc := 25) dX0_bears_25 rfl ?_
  refine v_iald F (pc := 26) (n := 8) (f := τ 7) (z := k) dX0_bears_26 (ch_7 hk) (by omega) (by decide) ?_
  have bd_2 := hW2 k (by omega) (by omega)
  refine v_aload_n F (pc := 27) dX0_bears_27 rfl ?_
  refine v_getf F (pc := 28) fd_X0_66_4 (v := .int (iI (τ 33 (m : Nat)))) dX0_bears_28 (ch_m hk hm) rfl ?_
  refine v_iadd F (pc := 31) (a := (τ 7) k) (b := τ 33 (m : Nat)) dX0_bears_31 ?_
  refine v_aload_n F (pc := 32) dX0_bears_32 rfl ?_
  refine v_getf F (pc := 33) fd_X0_121_5 (v := .int (iI (τ 42 (ad r 2 k)))) dX0_bears_33 (ch_r hk kq_1) rfl ?_
  refine v_icmp_gt F (pc := 36) (a := ((τ 7) k) + (τ 33 (m : Nat))) (b := τ 42 (ad r 2 k)) 119 dX0_bears_36 (by decide) (by omega) (by omega) (fun c_3 => ?_) (fun c_3 => ?_)
  · refine v_iconst F (pc := 119) dX0_bears_119 ?_
    refine v_iret F (pc := 120) (z := (iI (0))) dX0_bears_120 rfl (by first | rfl | exact nar_bI _ | decide) (Nat.le_of_ble_eq_true rfl) (Nat.le_of_ble_eq_true rfl) ?_
    exact ⟨congrArg (fun z => some (Value.int (iI z))) (show (0 : Int) = bI (cBE r τ 5 k m) by simp only [cBE, cB0]; simp_all [bI] <;> (intros; omega)), rfl⟩
  · refine v_aload_n F (pc := 39) dX0_bears_39 rfl ?_
    refine v_iload F (pc := 40) dX0_bears_40 rfl ?_
    refine v_callVp F (pc := 42) (As := [.int (iI (τ 40 (ad r 2 k)))]) (rest := []) ci_X0_124 ct_X0_weightInRow cs_X0_weightInRow (k_X0_weightInRow l g (Or.inl rfl) hk (τ := τ) (K := K) (r := r) (cp := cp) (b := b) (b' := b') hV (τ 40 (ad r 2 k)) (by omega)) dX0_bears_42 (k0 := 3) rfl rfl (ch_5 hk) rfl rfl (Nat.le_of_ble_eq_true rfl) (Nat.le_of_ble_eq_true rfl) (Nat.le_of_ble_eq_true rfl) (Nat.le_of_ble_eq_true rfl) (Nat.le_of_ble_eq_true rfl) ?_ (fun _ _ z => z.elim)
    have rg_4 : -8000000 ≤ cSum r τ 7 (τ 40 (ad r 2 k)) ∧ cSum r τ 7 (τ 40 (ad r 2 k)) ≤ 8000000 := cSR_rng hn8.1 hn8.2 hW2
    refine v_aload_n F (pc := 45) dX0_bears_45 rfl ?_
    refine v_getf F (pc := 46) fd_X0_66_4 (v := .int (iI (τ 33 (m : Nat)))) dX0_bears_46 (ch_m hk hm) rfl ?_
    refine v_iadd F (pc := 49) (a := cSum r τ 7 (τ 40 (ad r 2 k))) (b := τ 33 (m : Nat)) dX0_bears_49 ?_
    refine v_aload_n F (pc := 50) dX0_bears_50 rfl ?_
    refine v_getf F (pc := 51) fd_X0_26_3 (v := .ref (P 1)) dX0_bears_51 (ch_5 hk) rfl ?_
    refine v_getf F (pc := 54) fd_X0_127_6 (v := .ref (P 21)) dX0_bears_54 (ch_1 hk) rfl ?_
    refine v_iload F (pc := 57) dX0_bears_57 rfl ?_
    refine v_iald F (pc := 59) (n := 4) (f := τ 21) (z := τ 40 (ad r 2 k)) dX0_bears_59 (ch_21 hk) (by omega) (by decide) ?_
    have bd_5 := hS21 (τ 40 (ad r 2 k)) (by omega) (by omega)
    refine v_icmp_gt F (pc := 60) (a := (cSum r τ 7 (τ 40 (ad r 2 k))) + (τ 33 (m : Nat))) (b := (τ 21) (τ 40 (ad r 2 k))) 119 dX0_bears_60 (by decide) (by omega) (by omega) (fun c_6 => ?_) (fun c_6 => ?_)
    · refine v_iconst F (pc := 119) dX0_bears_119 ?_
      refine v_iret F (pc := 120) (z := (iI (0))) dX0_bears_120 rfl (by first | rfl | exact nar_bI _ | decide) (Nat.le_of_ble_eq_true rfl) (Nat.le_of_ble_eq_true rfl) ?_
      exact ⟨congrArg (fun z => some (Value.int (iI z))) (show (0 : Int) = bI (cBE r τ 5 k m) by simp only [cBE, cB0]; simp_all [bI] <;> (intros; omega)), rfl⟩
    · refine v_aload_n F (pc := 63) dX0_bears_63 rfl ?_
      refine v_iload F (pc := 64) dX0_bears_64 rfl ?_
      refine v_callVp F (pc := 66) (As := [.int (iI (τ 40 (ad r 2 k)))]) (rest := []) ci_X0_130 ct_X0_heatInRow cs_X0_heatInRow (k_X0_heatInRow l g (Or.inl rfl) hk (τ := τ) (K := K) (r := r) (cp := cp) (b := b) (b' := b') hV (τ 40 (ad r 2 k)) (by omega)) dX0_bears_66 (k0 := 3) rfl rfl (ch_5 hk) rfl rfl (Nat.le_of_ble_eq_true rfl) (Nat.le_of_ble_eq_true rfl) (Nat.le_of_ble_eq_true rfl) (Nat.le_of_ble_eq_true rfl) (Nat.le_of_ble_eq_true rfl) ?_ (fun _ _ z => z.elim)
      have rg_7 : -8000000 ≤ cSum r τ 8 (τ 40 (ad r 2 k)) ∧ cSum r τ 8 (τ 40 (ad r 2 k)) ≤ 8000000 := cSR_rng hn8.1 hn8.2 hW3
      refine v_aload_n F (pc := 69) dX0_bears_69 rfl ?_
      refine v_getf F (pc := 70) fd_X0_68_4 (v := .int (iI (τ 32 (m : Nat)))) dX0_bears_70 (ch_m hk hm) rfl ?_
      refine v_iadd F (pc := 73) (a := cSum r τ 8 (τ 40 (ad r 2 k))) (b := τ 32 (m : Nat)) dX0_bears_73 ?_
      refine v_aload_n F (pc := 74) dX0_bears_74 rfl ?_
      refine v_getf F (pc := 75) fd_X0_26_3 (v := .ref (P 1)) dX0_bears_75 (ch_5 hk) rfl ?_
      refine v_getf F (pc := 78) fd_X0_133_6 (v := .ref (P 20)) dX0_bears_78 (ch_1 hk) rfl ?_
      refine v_iload F (pc := 81) dX0_bears_81 rfl ?_
      refine v_iald F (pc := 83) (n := 4) (f := τ 20) (z := τ 40 (ad r 2 k)) dX0_bears_83 (ch_20 hk) (by omega) (by decide) ?_
      have bd_8 := hS20 (τ 40 (ad r 2 k)) (by omega) (by omega)
      refine v_icmp_gt F (pc := 84) (a := (cSum r τ 8 (τ 40 (ad r 2 k))) + (τ 32 (m : Nat))) (b := (τ 20) (τ 40 (ad r 2 k))) 119 dX0_bears_84 (by decide) (by omega) (by omega) (fun c_9 => ?_) (fun c_9 => ?_)
      · refine v_iconst F (pc := 119) dX0_bears_119 ?_
        refine v_iret F (pc := 120) (z := (iI (0))) dX0_bears_120 rfl (by first | rfl | exact nar_bI _ | decide) (Nat.le_of_ble_eq_true rfl) (Nat.le_of_ble_eq_true rfl) ?_
        exact ⟨congrArg (fun z => some (Value.int (iI z))) (show (0 : Int) = bI (cBE r τ 5 k m) by simp only [cBE, cB0]; simp_all [bI] <;> (intros; omega)), rfl⟩
      · refine v_aload_n F (pc := 87) dX0_bears_87 rfl ?_
        refine v_iload_n F (pc := 88) dX0_bears_88 rfl ?_
        refine v_iconst F (pc := 89) dX0_bears_89 ?_
        refine v_aload_n F (pc := 90) dX0_bears_90 rfl ?_
        refine v_iconst F (pc := 91) dX0_bears_91 ?_
        refine v_callVp F (pc := 92) (As := [.int (iI (0))]) (rest := [.int (iI (0)), .int (iI (k)), .ref (P 5)]) ci_X0_71 ct_X1_worstOn cs_X1_worstOn (k_X1_worstOn l g hk (τ := τ) (K := K) (r := r) (cp := cp) (b := b) (b' := b') (m := m) hm hmb 0 (by omega)) dX0_bears_92 (k0 := 4) rfl rfl (ch_m hk hm) rfl rfl (Nat.le_of_ble_eq_true rfl) (Nat.le_of_ble_eq_true rfl) (Nat.le_of_ble_eq_true rfl) (Nat.le_of_ble_eq_true rfl) (Nat.le_of_ble_eq_true rfl) ?_ (fun _ _ z => z.elim)
        refine v_callVp F (pc := 95) (As := [.int (iI (k)), .int (iI (0)), .int (iI (m_pw (τ 34 m) 0 (τ 32 m)))]) (rest := []) ci_X0_136 ct_X0_bearsMore cs_X0_bearsMore (k_X0_bearsMore l g (Or.inl rfl) hk (τ := τ) (K := K) (r := r) (cp := cp) (b := b) (b' := b') hV hW k (by omega) 0 (by omega) (m_pw (τ 34 m) 0 (τ 32 m)) (by omega)) dX0_bears_95 (k0 := 3) rfl rfl (ch_5 hk) rfl rfl (Nat.le_of_ble_eq_true rfl) (Nat.le_of_ble_eq_true rfl) (Nat.le_of_ble_eq_true rfl) (Nat.le_of_ble_eq_true rfl) (Nat.le_of_ble_eq_true rfl) ?_ (fun _ _ z => z.elim)
        refine v_if_eqB F (pc := 98) (b := (cBM r τ 10 k 0 (m_pw (τ 34 m) 0 (τ 32 m)))) 119 dX0_bears_98 (by decide) (fun c_10 => ?_) (fun c_10 => ?_)
        · refine v_iconst F (pc := 119) dX0_bears_119 ?_
          refine v_iret F (pc := 120) (z := (iI (0))) dX0_bears_120 rfl (by first | rfl | exact nar_bI _ | decide) (Nat.le_of_ble_eq_true rfl) (Nat.le_of_ble_eq_true rfl) ?_
          exact ⟨congrArg (fun z => some (Value.int (iI z))) (show (0 : Int) = bI (cBE r τ 5 k m) by simp only [cBE, cB0]; simp_all [bI] <;> (intros; omega)), rfl⟩
        · refine v_aload_n F (pc := 101) dX0_bears_101 rfl ?_
          refine v_iload_n F (pc := 102) dX0_bears_102 rfl ?_
          refine v_iconst F (pc := 103) dX0_bears_103 ?_
          refine v_aload_n F (pc := 104) dX0_bears_104 rfl ?_
          refine v_iconst F (pc := 105) dX0_bears_105 ?_
          refine v_callVp F (pc := 106) (As := [.int (iI (1))]) (rest := [.int (iI (1)), .int (iI (k)), .ref (P 5)]) ci_X0_71 ct_X1_worstOn cs_X1_worstOn (k_X1_worstOn l g hk (τ := τ) (K := K) (r := r) (cp := cp) (b := b) (b' := b') (m := m) hm hmb 1 (by omega)) dX0_bears_106 (k0 := 4) rfl rfl (ch_m hk hm) rfl rfl (Nat.le_of_ble_eq_true rfl) (Nat.le_of_ble_eq_true rfl) (Nat.le_of_ble_eq_true rfl) (Nat.le_of_ble_eq_true rfl) (Nat.le_of_ble_eq_true rfl) ?_ (fun _ _ z => z.elim)
          refine v_callVp F (pc := 109) (As := [.int (iI (k)), .int (iI (1)), .int (iI (m_pw (τ 34 m) 1 (τ 32 m)))]) (rest := []) ci_X0_136 ct_X0_bearsMore cs_X0_bearsMore (k_X0_bearsMore l g (Or.inl rfl) hk (τ := τ) (K := K) (r := r) (cp := cp) (b := b) (b' := b') hV hW k (by omega) 1 (by omega) (m_pw (τ 34 m) 1 (τ 32 m)) (by omega)) dX0_bears_109 (k0 := 3) rfl rfl (ch_5 hk) rfl rfl (Nat.le_of_ble_eq_true rfl) (Nat.le_of_ble_eq_true rfl) (Nat.le_of_ble_eq_true rfl) (Nat.le_of_ble_eq_true rfl) (Nat.le_of_ble_eq_true rfl) ?_ (fun _ _ z => z.elim)
          refine v_if_eqB F (pc := 112) (b := (cBM r τ 11 k 1 (m_pw (τ 34 m) 1 (τ 32 m)))) 119 dX0_bears_112 (by decide) (fun c_11 => ?_) (fun c_11 => ?_)
          · refine v_iconst F (pc := 119) dX0_bears_119 ?_
            refine v_iret F (pc := 120) (z := (iI (0))) dX0_bears_120 rfl (by first | rfl | exact nar_bI _ | decide) (Nat.le_of_ble_eq_true rfl) (Nat.le_of_ble_eq_true rfl) ?_
            exact ⟨congrArg (fun z => some (Value.int (iI z))) (show (0 : Int) = bI (cBE r τ 5 k m) by simp only [cBE, cB0]; simp_all [bI] <;> (intros; omega)), rfl⟩
          · refine v_iconst F (pc := 115) dX0_bears_115 ?_
            refine v_goto F (pc := 116) 120 dX0_bears_116 (by decide) ?_
            refine v_iret F (pc := 120) (z := (iI (1))) dX0_bears_120 rfl (by first | rfl | exact nar_bI _ | decide) (Nat.le_of_ble_eq_true rfl) (Nat.le_of_ble_eq_true rfl) ?_
            exact ⟨congrArg (fun z => some (Value.int (iI z))) (show (1 : Int) = bI (cBE r τ 5 k m) by simp only [cBE, cB0]; simp_all [bI] <;> (intros; omega)), rfl⟩
-- X0_bears
set_option maxRecDepth 100000 in
set_option maxHeartbeats 8000000 in
theorem k_X0_bears_12 (l : Launch) (g : gT) {P K : Nat → Nat} {r : Nat → Int → Option Nat} {cp : Nat → Nat} {b b' : Nat} {τ : sT} (hk : cok P K cp) (hV : CV K r cp τ) (hW : Wb τ 12) (k : Int) (hk2 : 0 ≤ k ∧ k < τ 55 0) {m : Nat} (hm : K m = 1) : CM l g yX0_bears cX0_bears 5 (some .boolean) ({ frames := 6, cells := 0, slots := 0, locals := 129 }) [.ref (P 12), .int (iI (k)), .ref m] (cheap g P K r cp b b' τ) (pV (some (.int (iI (bI (cBE r τ 12 k m))))) (cheap g P K r cp b b' τ)) (noX) := by
  refine CM.of (lo := [some (.ref (P 12)), some (.int (iI (k))), some (.ref m), none, none]) (by decide) (Nat.le_of_ble_eq_true rfl) (by simp [Value.category]) rfl ?_
  intro pX eX sX mX bX tX cX AX F htab hmn
  have F : Fx pX l sX mX ([.ref (P 12), .int (iI (k)), .ref m] : List Value).toArray tX cX cX0_bears 5 (some .boolean) RX0 g AX := F
  have hM := hV.1
  have hR := hV.2.1
  have hL0 := hV.2.2.1
  have hL1 := hV.2.2.2.1
  have hL2 := hV.2.2.2.2.1
  have hS20 := hV.2.2.2.2.2.1
  have hS21 := hV.2.2.2.2.2.2.1
  have hS22 := hV.2.2.2.2.2.2.2.1
  have hS2 := hV.2.2.2.2.2.2.2.2.1
  have hn8 : 0 ≤ τ 55 0 ∧ τ 55 0 ≤ 8 := ⟨hL2.1, hL2.2.2.2.1⟩
  have hn60 : 0 ≤ τ 53 0 ∧ τ 53 0 ≤ 60 := ⟨hL0.1, hL0.2.2.2.1⟩
  have hW1 : ∀ z : Int, 0 ≤ z → z < 160 → -1 ≤ τ 13 z ∧ τ 13 z ≤ 1000000 := hW.1
  have hW2 : ∀ z : Int, 0 ≤ z → z < 8 → -1000000 ≤ τ 14 z ∧ τ 14 z ≤ 1000000 := hW.2.1
  have hW3 : ∀ z : Int, 0 ≤ z → z < 8 → -1000000 ≤ τ 15 z ∧ τ 15 z ≤ 1000000 := hW.2.2.1
  have hW5 : ∀ z : Int, 0 ≤ z → z < 8 → -1000000 ≤ τ 17 z ∧ τ 17 z ≤ 1000000 := hW.2.2.2.1
  have hW6 : ∀ z : Int, 0 ≤ z → z < 8 → -1000000 ≤ τ 18 z ∧ τ 18 z ≤ 1000000 := hW.2.2.2.2
  have hmb := hM m hm
  have hp0 := m_pw_2000 (c := τ 34 m) (f := 0) hmb.2.2.1
  have hp1 := m_pw_2000 (c := τ 34 m) (f := 1) hmb.2.2.1
  refine v_aload_n F (pc := 0) dX0_bears_0 rfl ?_
  refine v_getf F (pc := 1) fd_X0_26_3 (v := .ref (P 1)) dX0_bears_1 (ch_12 hk) rfl ?_
  refine v_getf F (pc := 4) fd_X0_85_6 (v := .ref (P 19)) dX0_bears_4 (ch_1 hk) rfl ?_
  refine v_iload_n F (pc := 7) dX0_bears_7 rfl ?_
  refine v_callVp F (pc := 8) (As := [.int (iI (k))]) (rest := []) ci_X0_97 ct_Jx4a65c_get_915e3 cs_Jx4a65c_get_915e3 (kl_get2 l g (τ := τ) (r := r) (cp := cp) hk hL2 (k := k) (by omega) (show (k : Int) < τ 55 0 by omega)) dX0_bears_8 (k0 := 2) rfl rfl (ch_19 hk) rfl rfl (Nat.le_of_ble_eq_true rfl) (Nat.le_of_ble_eq_true rfl) (Nat.le_of_ble_eq_true rfl) (Nat.le_of_ble_eq_true rfl) (Nat.le_of_ble_eq_true rfl) ?_ (fun _ _ z => z.elim)
  have kq_1 : K (ad r 2 k) = 2 := (hL2.2.2.2.2 k (by omega) (show (k : Int) < τ 55 0 by omega)).2
  have kq_1b := hR _ kq_1
  refine v_castS F (pc := 11) (ci := 5) rfl tk_X0_101 dX0_bears_11 (ch_r hk kq_1) ?_
  refine v_astore_n F (pc := 14) (lo' := [some (.ref (P 12)), some (.int (iI (k))), some (.ref m), some (.ref (ad r 2 k)), none]) dX0_bears_14 (Nat.le_of_ble_eq_true rfl) rfl ?_
  refine v_aload_n F (pc := 15) dX0_bears_15 rfl ?_
  refine v_getf F (pc := 16) fd_X0_103_5 (v := .int (iI (τ 40 (ad r 2 k)))) dX0_bears_16 (ch_r hk kq_1) rfl ?_
  refine v_istore F (pc := 19) (lo' := [some (.ref (P 12)), some (.int (iI (k))), some (.ref m), some (.ref (ad r 2 k)), some (.int (iI (τ 40 (ad r 2 k))))]) dX0_bears_19 (Nat.le_of_ble_eq_true rfl) rfl ?_
  refine v_aload_n F (pc := 21) dX0_bears_21 rfl ?_
  refine v_getf F (pc := 22) fd_X0_15_3 (v := .ref (P 14)) dX0_bears_22 (ch_12 hk) rfl ?_
  refine v_iload_n F (pc := 25) dX0_bears_25 rfl ?_
  refine v_iald F (pc := 26) (n := 8) (f := τ 14) (z := k) dX0_bears_26 (ch_14 hk) (by omega) (by decide) ?_
  have bd_2 := hW2 k (by omega) (by omega)
  refine v_aload_n F (pc := 27) dX0_bears_27 rfl ?_
  refine v_getf F (pc := 28) fd_X0_66_4 (v := .int (iI (τ 33 (m : Nat)))) dX0_bears_28 (ch_m hk hm) rfl ?_
  refine v_iadd F (pc := 31) (a := (τ 14) k) (b := τ 33 (m : Nat)) dX0_bears_31 ?_
  refine v_aload_n F (pc := 32) dX0_bears_32 rfl ?_
  refine v_getf F (pc := 33) fd_X0_121_5 (v := .int (iI (τ 42 (ad r 2 k)))) dX0_bears_33 (ch_r hk kq_1) rfl ?_
  refine v_icmp_gt F (pc := 36) (a := ((τ 14) k) + (τ 33 (m : Nat))) (b := τ 42 (ad r 2 k)) 119 dX0_bears_36 (by decide) (by omega) (by omega) (fun c_3 => ?_) (fun c_3 => ?_)
  · refine v_iconst F (pc := 119) dX0_bears_119 ?_
    refine v_iret F (pc := 120) (z := (iI (0))) dX0_bears_120 rfl (by first | rfl | exact nar_bI _ | decide) (Nat.le_of_ble_eq_true rfl) (Nat.le_of_ble_eq_true rfl) ?_
    exact ⟨congrArg (fun z => some (Value.int (iI z))) (show (0 : Int) = bI (cBE r τ 12 k m) by simp only [cBE, cB0]; simp_all [bI] <;> (intros; omega)), rfl⟩
  · refine v_aload_n F (pc := 39) dX0_bears_39 rfl ?_
    refine v_iload F (pc := 40) dX0_bears_40 rfl ?_
    refine v_callVp F (pc := 42) (As := [.int (iI (τ 40 (ad r 2 k)))]) (rest := []) ci_X0_124 ct_X0_weightInRow cs_X0_weightInRow (k_X0_weightInRow l g (Or.inr rfl) hk (τ := τ) (K := K) (r := r) (cp := cp) (b := b) (b' := b') hV (τ 40 (ad r 2 k)) (by omega)) dX0_bears_42 (k0 := 3) rfl rfl (ch_12 hk) rfl rfl (Nat.le_of_ble_eq_true rfl) (Nat.le_of_ble_eq_true rfl) (Nat.le_of_ble_eq_true rfl) (Nat.le_of_ble_eq_true rfl) (Nat.le_of_ble_eq_true rfl) ?_ (fun _ _ z => z.elim)
    have rg_4 : -8000000 ≤ cSum r τ 14 (τ 40 (ad r 2 k)) ∧ cSum r τ 14 (τ 40 (ad r 2 k)) ≤ 8000000 := cSR_rng hn8.1 hn8.2 hW2
    refine v_aload_n F (pc := 45) dX0_bears_45 rfl ?_
    refine v_getf F (pc := 46) fd_X0_66_4 (v := .int (iI (τ 33 (m : Nat)))) dX0_bears_46 (ch_m hk hm) rfl ?_
    refine v_iadd F (pc := 49) (a := cSum r τ 14 (τ 40 (ad r 2 k))) (b := τ 33 (m : Nat)) dX0_bears_49 ?_
    refine v_aload_n F (pc := 50) dX0_bears_50 rfl ?_
    refine v_getf F (pc := 51) fd_X0_26_3 (v := .ref (P 1)) dX0_bears_51 (ch_12 hk) rfl ?_
    refine v_getf F (pc := 54) fd_X0_127_6 (v := .ref (P 21)) dX0_bears_54 (ch_1 hk) rfl ?_
    refine v_iload F (pc := 57) dX0_bears_57 rfl ?_
    refine v_iald F (pc := 59) (n := 4) (f := τ 21) (z := τ 40 (ad r 2 k)) dX0_bears_59 (ch_21 hk) (by omega) (by decide) ?_
    have bd_5 := hS21 (τ 40 (ad r 2 k)) (by omega) (by omega)
    refine v_icmp_gt F (pc := 60) (a := (cSum r τ 14 (τ 40 (ad r 2 k))) + (τ 33 (m : Nat))) (b := (τ 21) (τ 40 (ad r 2 k))) 119 dX0_bears_60 (by decide) (by omega) (by omega) (fun c_6 => ?_) (fun c_6 => ?_)
    · refine v_iconst F (pc := 119) dX0_bears_119 ?_
      refine v_iret F (pc := 120) (z := (iI (0))) dX0_bears_120 rfl (by first | rfl | exact nar_bI _ | decide) (Nat.le_of_ble_eq_true rfl) (Nat.le_of_ble_eq_true rfl) ?_
      exact ⟨congrArg (fun z => some (Value.int (iI z))) (show (0 : Int) = bI (cBE r τ 12 k m) by simp only [cBE, cB0]; simp_all [bI] <;> (intros; omega)), rfl⟩
    · refine v_aload_n F (pc := 63) dX0_bears_63 rfl ?_
      refine v_iload F (pc := 64) dX0_bears_64 rfl ?_
      refine v_callVp F (pc := 66) (As := [.int (iI (τ 40 (ad r 2 k)))]) (rest := []) ci_X0_130 ct_X0_heatInRow cs_X0_heatInRow (k_X0_heatInRow l g (Or.inr rfl) hk (τ := τ) (K := K) (r := r) (cp := cp) (b := b) (b' := b') hV (τ 40 (ad r 2 k)) (by omega)) dX0_bears_66 (k0 := 3) rfl rfl (ch_12 hk) rfl rfl (Nat.le_of_ble_eq_true rfl) (Nat.le_of_ble_eq_true rfl) (Nat.le_of_ble_eq_true rfl) (Nat.le_of_ble_eq_true rfl) (Nat.le_of_ble_eq_true rfl) ?_ (fun _ _ z => z.elim)
      have rg_7 : -8000000 ≤ cSum r τ 15 (τ 40 (ad r 2 k)) ∧ cSum r τ 15 (τ 40 (ad r 2 k)) ≤ 8000000 := cSR_rng hn8.1 hn8.2 hW3
      refine v_aload_n F (pc := 69) dX0_bears_69 rfl ?_
      refine v_getf F (pc := 70) fd_X0_68_4 (v := .int (iI (τ 32 (m : Nat)))) dX0_bears_70 (ch_m hk hm) rfl ?_
      refine v_iadd F (pc := 73) (a := cSum r τ 15 (τ 40 (ad r 2 k))) (b := τ 32 (m : Nat)) dX0_bears_73 ?_
      refine v_aload_n F (pc := 74) dX0_bears_74 rfl ?_
      refine v_getf F (pc := 75) fd_X0_26_3 (v := .ref (P 1)) dX0_bears_75 (ch_12 hk) rfl ?_
      refine v_getf F (pc := 78) fd_X0_133_6 (v := .ref (P 20)) dX0_bears_78 (ch_1 hk) rfl ?_
      refine v_iload F (pc := 81) dX0_bears_81 rfl ?_
      refine v_iald F (pc := 83) (n := 4) (f := τ 20) (z := τ 40 (ad r 2 k)) dX0_bears_83 (ch_20 hk) (by omega) (by decide) ?_
      have bd_8 := hS20 (τ 40 (ad r 2 k)) (by omega) (by omega)
      refine v_icmp_gt F (pc := 84) (a := (cSum r τ 15 (τ 40 (ad r 2 k))) + (τ 32 (m : Nat))) (b := (τ 20) (τ 40 (ad r 2 k))) 119 dX0_bears_84 (by decide) (by omega) (by omega) (fun c_9 => ?_) (fun c_9 => ?_)
      · refine v_iconst F (pc := 119) dX0_bears_119 ?_
        refine v_iret F (pc := 120) (z := (iI (0))) dX0_bears_120 rfl (by first | rfl | exact nar_bI _ | decide) (Nat.le_of_ble_eq_true rfl) (Nat.le_of_ble_eq_true rfl) ?_
        exact ⟨congrArg (fun z => some (Value.int (iI z))) (show (0 : Int) = bI (cBE r τ 12 k m) by simp only [cBE, cB0]; simp_all [bI] <;> (intros; omega)), rfl⟩
      · refine v_aload_n F (pc := 87) dX0_bears_87 rfl ?_
        refine v_iload_n F (pc := 88) dX0_bears_88 rfl ?_
        refine v_iconst F (pc := 89) dX0_bears_89 ?_
        refine v_aload_n F (pc := 90) dX0_bears_90 rfl ?_
        refine v_iconst F (pc := 91) dX0_bears_91 ?_
        refine v_callVp F (pc := 92) (As := [.int (iI (0))]) (rest := [.int (iI (0)), .int (iI (k)), .ref (P 12)]) ci_X0_71 ct_X1_worstOn cs_X1_worstOn (k_X1_worstOn l g hk (τ := τ) (K := K) (r := r) (cp := cp) (b := b) (b' := b') (m := m) hm hmb 0 (by omega)) dX0_bears_92 (k0 := 4) rfl rfl (ch_m hk hm) rfl rfl (Nat.le_of_ble_eq_true rfl) (Nat.le_of_ble_eq_true rfl) (Nat.le_of_ble_eq_true rfl) (Nat.le_of_ble_eq_true rfl) (Nat.le_of_ble_eq_true rfl) ?_ (fun _ _ z => z.elim)
        refine v_callVp F (pc := 95) (As := [.int (iI (k)), .int (iI (0)), .int (iI (m_pw (τ 34 m) 0 (τ 32 m)))]) (rest := []) ci_X0_136 ct_X0_bearsMore cs_X0_bearsMore (k_X0_bearsMore l g (Or.inr rfl) hk (τ := τ) (K := K) (r := r) (cp := cp) (b := b) (b' := b') hV hW k (by omega) 0 (by omega) (m_pw (τ 34 m) 0 (τ 32 m)) (by omega)) dX0_bears_95 (k0 := 3) rfl rfl (ch_12 hk) rfl rfl (Nat.le_of_ble_eq_true rfl) (Nat.le_of_ble_eq_true rfl) (Nat.le_of_ble_eq_true rfl) (Nat.le_of_ble_eq_true rfl) (Nat.le_of_ble_eq_true rfl) ?_ (fun _ _ z => z.elim)
        refine v_if_eqB F (pc := 98) (b := (cBM r τ 17 k 0 (m_pw (τ 34 m) 0 (τ 32 m)))) 119 dX0_bears_98 (by decide) (fun c_10 => ?_) (fun c_10 => ?_)
        · refine v_iconst F (pc := 119) dX0_bears_119 ?_
          refine v_iret F (pc := 120) (z := (iI (0))) dX0_bears_120 rfl (by first | rfl | exact nar_bI _ | decide) (Nat.le_of_ble_eq_true rfl) (Nat.le_of_ble_eq_true rfl) ?_
          exact ⟨congrArg (fun z => some (Value.int (iI z))) (show (0 : Int) = bI (cBE r τ 12 k m) by simp only [cBE, cB0]; simp_all [bI] <;> (intros; omega)), rfl⟩
        · refine v_aload_n F (pc := 101) dX0_bears_101 rfl ?_
          refine v_iload_n F (pc := 102) dX0_bears_102 rfl ?_
          refine v_iconst F (pc := 103) dX0_bears_103 ?_
          refine v_aload_n F (pc := 104) dX0_bears_104 rfl ?_
          refine v_iconst F (pc := 105) dX0_bears_105 ?_
          refine v_callVp F (pc := 106) (As := [.int (iI (1))]) (rest := [.int (iI (1)), .int (iI (k)), .ref (P 12)]) ci_X0_71 ct_X1_worstOn cs_X1_worstOn (k_X1_worstOn l g hk (τ := τ) (K := K) (r := r) (cp := cp) (b := b) (b' := b') (m := m) hm hmb 1 (by omega)) dX0_bears_106 (k0 := 4) rfl rfl (ch_m hk hm) rfl rfl (Nat.le_of_ble_eq_true rfl) (Nat.le_of_ble_eq_true rfl) (Nat.le_of_ble_eq_true rfl) (Nat.le_of_ble_eq_true rfl) (Nat.le_of_ble_eq_true rfl) ?_ (fun _ _ z => z.elim)
          refine v_callVp F (pc := 109) (As := [.int (iI (k)), .int (iI (1)), .int (iI (m_pw (τ 34 m) 1 (τ 32 m)))]) (rest := []) ci_X0_136 ct_X0_bearsMore cs_X0_bearsMore (k_X0_bearsMore l g (Or.inr rfl) hk (τ := τ) (K := K) (r := r) (cp := cp) (b := b) (b' := b') hV hW k (by omega) 1 (by omega) (m_pw (τ 34 m) 1 (τ 32 m)) (by omega)) dX0_bears_109 (k0 := 3) rfl rfl (ch_12 hk) rfl rfl (Nat.le_of_ble_eq_true rfl) (Nat.le_of_ble_eq_true rfl) (Nat.le_of_ble_eq_true rfl) (Nat.le_of_ble_eq_true rfl) (Nat.le_of_ble_eq_true rfl) ?_ (fun _ _ z => z.elim)
          refine v_if_eqB F (pc := 112) (b := (cBM r τ 18 k 1 (m_pw (τ 34 m) 1 (τ 32 m)))) 119 dX0_bears_112 (by decide) (fun c_11 => ?_) (fun c_11 => ?_)
          · refine v_iconst F (pc := 119) dX0_bears_119 ?_
            refine v_iret F (pc := 120) (z := (iI (0))) dX0_bears_120 rfl (by first | rfl | exact nar_bI _ | decide) (Nat.le_of_ble_eq_true rfl) (Nat.le_of_ble_eq_true rfl) ?_
            exact ⟨congrArg (fun z => some (Value.int (iI z))) (show (0 : Int) = bI (cBE r τ 12 k m) by simp only [cBE, cB0]; simp_all [bI] <;> (intros; omega)), rfl⟩
          · refine v_iconst F (pc := 115) dX0_bears_115 ?_
            refine v_goto F (pc := 116) 120 dX0_bears_116 (by decide) ?_
            refine v_iret F (pc := 120) (z := (iI (1))) dX0_bears_120 rfl (by first | rfl | exact nar_bI _ | decide) (Nat.le_of_ble_eq_true rfl) (Nat.le_of_ble_eq_true rfl) ?_
            exact ⟨congrArg (fun z => some (Value.int (iI z))) (show (1 : Int) = bI (cBE r τ 12 k m) by simp only [cBE, cB0]; simp_all [bI] <;> (intros; omega)), rfl⟩
theorem k_X0_bears (l : Launch) (g : gT) {w : Nat} (hw : w = 5 ∨ w = 12) {P K : Nat → Nat} {r : Nat → Int → Option Nat} {cp : Nat → Nat} {b b' : Nat} {τ : sT} (hk : cok P K cp) (hV : CV K r cp τ) (hW : Wb τ w) (k : Int) (hk2 : 0 ≤ k ∧ k < τ 55 0) {m : Nat} (hm : K m = 1) : CM l g yX0_bears cX0_bears 5 (some .boolean) { frames := 6, cells := 0, slots := 0, locals := 129 } [.ref (P w), .int (iI (k)), .ref m] (cheap g P K r cp b b' τ) (pV (some (.int (iI (bI (cBE r τ w k m))))) (cheap g P K r cp b b' τ)) (noX) := by
  rcases hw with rfl | rfl
  · exact k_X0_bears_5 l g hk hV hW k hk2 hm
  · exact k_X0_bears_12 l g hk hV hW k hk2 hm
-- X0_lowestFree
set_option maxRecDepth 100000 in
set_option maxHeartbeats 8000000 in
theorem k_X0_lowestFree_5 (l : Launch) (g : gT) {P K : Nat → Nat} {r : Nat → Int → Option Nat} {cp : Nat → Nat} {b b' : Nat} {τ : sT} (hk : cok P K cp) (hV : CV K r cp τ) (hW : Wb τ 5) (k : Int) (hk2 : 0 ≤ k ∧ k < τ 55 0) (n : Int) (hn : 1 ≤ n ∧ n ≤ 20) : CM l g yX0_lowestFree cX0_lowestFree 5 (some .int) ({ frames := 4, cells := 0, slots := 0, locals := 84 }) [.ref (P 5), .int (iI (k)), .int (iI (n))] (cheap g P K r cp b b' τ) (pV (some (.int (iI (cLow r τ (5 + 1) k n)))) (cheap g P K r cp b b' τ)) (noX) := by
  refine CM.of (lo := [some (.ref (P 5)), some (.int (iI (k))), some (.int (iI (n))), none, none]) (by decide) (Nat.le_of_ble_eq_true rfl) (by simp [Value.category]) rfl ?_
  intro pX eX sX mX bX tX cX AX F htab hmn
  have F : Fx pX l sX mX ([.ref (P 5), .int (iI (k)), .int (iI (n))] : List Value).toArray tX cX cX0_lowestFree 5 (some .int) RX0 g AX := F
  have hM := hV.1
  have hR := hV.2.1
  have hL0 := hV.2.2.1
  have hL1 := hV.2.2.2.1
  have hL2 := hV.2.2.2.2.1
  have hS20 := hV.2.2.2.2.2.1
  have hS21 := hV.2.2.2.2.2.2.1
  have hS22 := hV.2.2.2.2.2.2.2.1
  have hS2 := hV.2.2.2.2.2.2.2.2.1
  have hn8 : 0 ≤ τ 55 0 ∧ τ 55 0 ≤ 8 := ⟨hL2.1, hL2.2.2.2.1⟩
  have hn60 : 0 ≤ τ 53 0 ∧ τ 53 0 ≤ 60 := ⟨hL0.1, hL0.2.2.2.1⟩
  have hW1 : ∀ z : Int, 0 ≤ z → z < 160 → -1 ≤ τ 6 z ∧ τ 6 z ≤ 1000000 := hW.1
  have hW2 : ∀ z : Int, 0 ≤ z → z < 8 → -1000000 ≤ τ 7 z ∧ τ 7 z ≤ 1000000 := hW.2.1
  have hW3 : ∀ z : Int, 0 ≤ z → z < 8 → -1000000 ≤ τ 8 z ∧ τ 8 z ≤ 1000000 := hW.2.2.1
  have hW5 : ∀ z : Int, 0 ≤ z → z < 8 → -1000000 ≤ τ 10 z ∧ τ 10 z ≤ 1000000 := hW.2.2.2.1
  have hW6 : ∀ z : Int, 0 ≤ z → z < 8 → -1000000 ≤ τ 11 z ∧ τ 11 z ≤ 1000000 := hW.2.2.2.2
  have hr9 := hR _ (hL2.2.2.2.2 k hk2.1 hk2.2).2
  refine v_iconst F (pc := 0) dX0_lowestFree_0 ?_
  refine v_istore_n F (pc := 1) (lo' := [some (.ref (P 5)), some (.int (iI (k))), some (.int (iI (n))), some (.int (iI (0))), none]) dX0_lowestFree_1 (Nat.le_of_ble_eq_true rfl) rfl ?_
  refine v_iconst F (pc := 2) dX0_lowestFree_2 ?_
  refine v_istore F (pc := 3) (lo' := [some (.ref (P 5)), some (.int (iI (k))), some (.int (iI (n))), some (.int (iI (0))), some (.int (iI (0)))]) dX0_lowestFree_3 (Nat.le_of_ble_eq_true rfl) rfl ?_
  have LP5 : ∀ (N_ : Nat) (s : Int), (0 ≤ s) → (s ≤ (τ 41 (ad r 2 k))) → (∀ j, 0 ≤ j → j < s → decide (fr (cEm τ 6 k) (j + 1) = n) = false) → ((τ 41 (ad r 2 k)) - s).toNat < N_ → VE pX l eX ({ frames := 4, cells := 0, slots := 0, locals := 84 }) sX mX ([.ref (P 5), .int (iI (k)), .int (iI (n))] : List Value).toArray bX tX cX 5 g AX (cheap g P K r cp b b' τ) 0 0 5 [some (.ref (P 5)), some (.int (iI (k))), some (.int (iI (n))), some (.int (iI (fr (cEm τ 6 k) s))), some (.int (iI (s)))] [] (pV (some (.int (iI (cLow r τ (5 + 1) k n)))) (cheap g P K r cp b b' τ)) (noX) 0 0 := by
    intro N_
    induction N_ with
    | zero => intro s _ _ _ hm_; exact absurd hm_ (Nat.not_lt_zero _)
    | succ N_ ih =>
      intro s hs0 hs1 hno hm_
      have hfr := fr_rng (cEm τ 6 k) hs0
      refine v_iload F (pc := 5) dX0_lowestFree_5 rfl ?_
      refine v_aload_n F (pc := 7) dX0_lowestFree_7 rfl ?_
      refine v_getf F (pc := 8) fd_X0_26_3 (v := .ref (P 1)) dX0_lowestFree_8 (ch_5 hk) rfl ?_
      refine v_getf F (pc := 11) fd_X0_85_6 (v := .ref (P 19)) dX0_lowestFree_11 (ch_1 hk) rfl ?_
      refine v_iload_n F (pc := 14) dX0_lowestFree_14 rfl ?_
      refine v_callVp F (pc := 15) (As := [.int (iI (k))]) (rest := [.int (iI (s))]) ci_X0_97 ct_Jx4a65c_get_915e3 cs_Jx4a65c_get_915e3 (kl_get2 l g (τ := τ) (r := r) (cp := cp) hk hL2 (k := k) (by omega) (show (k : Int) < τ 55 0 by omega)) dX0_lowestFree_15 (k0 := 2) rfl rfl (ch_19 hk) rfl rfl (Nat.le_of_ble_eq_true rfl) (Nat.le_of_ble_eq_true rfl) (Nat.le_of_ble_eq_true rfl) (Nat.le_of_ble_eq_true rfl) (Nat.le_of_ble_eq_true rfl) ?_ (fun _ _ z => z.elim)
      have kq_1 : K (ad r 2 k) = 2 := (hL2.2.2.2.2 k (by omega) (show (k : Int) < τ 55 0 by omega)).2
      have kq_1b := hR _ kq_1
      refine v_castS F (pc := 18) (ci := 5) rfl tk_X0_101 dX0_lowestFree_18 (ch_r hk kq_1) ?_
      refine v_getf F (pc := 21) fd_X0_149_5 (v := .int (iI (τ 41 (ad r 2 k)))) dX0_lowestFree_21 (ch_r hk kq_1) rfl ?_
      refine v_icmp_ge F (pc := 24) (a := s) (b := τ 41 (ad r 2 k)) 72 dX0_lowestFree_24 (by decide) (by omega) (by omega) (fun c_2 => ?_) (fun c_2 => ?_)
      · refine v_iconst F (pc := 72) dX0_lowestFree_72 ?_
        refine v_iret F (pc := 73) (z := (iI (-1))) dX0_lowestFree_73 rfl rfl (Nat.le_of_ble_eq_true rfl) (Nat.le_of_ble_eq_true rfl) ?_
        have e8 : low (cEm τ 6 k) n (τ 41 (ad r 2 k)) = -1 := ff_none (fun j q1 q2 => hno j q1 (by omega))
        exact ⟨congrArg (fun z => some (Value.int (iI z))) (by show _ = cLow r τ 6 k n; unfold cLow; rw [e8, if_pos rfl]), rfl⟩
      · refine v_aload_n F (pc := 27) dX0_lowestFree_27 rfl ?_
        refine v_getf F (pc := 28) fd_X0_9_3 (v := .ref (P 6)) dX0_lowestFree_28 (ch_5 hk) rfl ?_
        refine v_iload_n F (pc := 31) dX0_lowestFree_31 rfl ?_
        refine v_iload F (pc := 32) dX0_lowestFree_32 rfl ?_
        refine v_callNp F (pc := 34) (As := [.int (iI (k)), .int (iI (s))]) (rest := [.ref (P 6)]) cn_X0_150 ct_X4_cellAt (k_X4_cellAt l g k s) dX0_lowestFree_34 rfl rfl (Nat.le_of_ble_eq_true rfl) (Nat.le_of_ble_eq_true rfl) (Nat.le_of_ble_eq_true rfl) (Nat.le_of_ble_eq_true rfl) (Nat.le_of_ble_eq_true rfl) ?_
        refine v_iald F (pc := 37) (n := 160) (f := τ 6) (z := k * 20 + s) dX0_lowestFree_37 (ch_6 hk) (by omega) (by decide) ?_
        have bd_3 := hW1 (k * 20 + s) (by omega) (by omega)
        refine v_iconst F (pc := 38) dX0_lowestFree_38 ?_
        refine v_icmp_ne F (pc := 39) (a := (τ 6) (k * 20 + s)) (b := -1) 48 dX0_lowestFree_39 (by decide) (by omega) (by omega) (fun c_4 => ?_) (fun c_4 => ?_)
        · have hE : cEm τ 6 k s = false := decide_eq_false c_4
          refine v_iconst F (pc := 48) dX0_lowestFree_48 ?_
          refine v_istore_n F (pc := 49) (lo' := [some (.ref (P 5)), some (.int (iI (k))), some (.int (iI (n))), some (.int (iI (0))), some (.int (iI (s)))]) dX0_lowestFree_49 (Nat.le_of_ble_eq_true rfl) rfl ?_
          refine v_iload_n F (pc := 50) dX0_lowestFree_50 rfl ?_
          refine v_iload_n F (pc := 51) dX0_lowestFree_51 rfl ?_
          refine v_icmp_ne F (pc := 52) (a := 0) (b := n) 66 dX0_lowestFree_52 (by decide) (by omega) (by omega) (fun c_5 => ?_) (fun c_5 => ?_)
          · have hq9 := c_5
            refine v_iinc F (pc := 66) (lo' := [some (.ref (P 5)), some (.int (iI (k))), some (.int (iI (n))), some (.int (iI (0))), some (.int (iI (s + 1)))]) dX0_lowestFree_66 rfl (Nat.le_of_ble_eq_true rfl) rfl ?_
            refine v_goto F (pc := 69) 5 dX0_lowestFree_69 (by decide) ?_
            have e_0 : fr (cEm τ 6 k) (s + 1) = 0 := by rw [fr_s _ hs0, hE]; rfl
            have ih2 := ih (s + 1) (by omega) (by omega) (no_s hno (decide_eq_false (by rw [e_0]; exact hq9))) (by omega)
            rw [e_0] at ih2
            exact ih2
          · have hq9 := c_5
            refine v_iload_n F (pc := 55) dX0_lowestFree_55 rfl ?_
            refine v_iload F (pc := 56) dX0_lowestFree_56 rfl ?_
            refine v_iload_n F (pc := 58) dX0_lowestFree_58 rfl ?_
            refine v_isub F (pc := 59) (a := s) (b := n) dX0_lowestFree_59 ?_
            refine v_iconst F (pc := 60) dX0_lowestFree_60 ?_
            refine v_iadd F (pc := 61) (a := s - n) (b := 1) dX0_lowestFree_61 ?_
            refine v_callNp F (pc := 62) (As := [.int (iI (k)), .int (iI ((s - n) + 1))]) (rest := []) cn_X0_150 ct_X4_cellAt (k_X4_cellAt l g k ((s - n) + 1)) dX0_lowestFree_62 rfl rfl (Nat.le_of_ble_eq_true rfl) (Nat.le_of_ble_eq_true rfl) (Nat.le_of_ble_eq_true rfl) (Nat.le_of_ble_eq_true rfl) (Nat.le_of_ble_eq_true rfl) ?_
            refine v_iret F (pc := 65) (z := (iI (k * 20 + ((s - n) + 1)))) dX0_lowestFree_65 rfl rfl (Nat.le_of_ble_eq_true rfl) (Nat.le_of_ble_eq_true rfl) ?_
            have e9 : fr (cEm τ 6 k) (s + 1) = n := by rw [fr_s _ hs0, hE]; exact hq9
            have e8 : low (cEm τ 6 k) n (τ 41 (ad r 2 k)) = s := ff_at hs0 (by omega) (decide_eq_true e9) hno
            exact ⟨congrArg (fun z => some (Value.int (iI z))) (by show _ = cLow r τ 6 k n; unfold cLow; rw [e8, if_neg (by omega)]), rfl⟩
        · have hE : cEm τ 6 k s = true := decide_eq_true c_4
          refine v_iload_n F (pc := 42) dX0_lowestFree_42 rfl ?_
          refine v_iconst F (pc := 43) dX0_lowestFree_43 ?_
          refine v_iadd F (pc := 44) (a := fr (cEm τ 6 k) s) (b := 1) dX0_lowestFree_44 ?_
          refine v_goto F (pc := 45) 49 dX0_lowestFree_45 (by decide) ?_
          refine v_istore_n F (pc := 49) (lo' := [some (.ref (P 5)), some (.int (iI (k))), some (.int (iI (n))), some (.int (iI ((fr (cEm τ 6 k) s) + 1))), some (.int (iI (s)))]) dX0_lowestFree_49 (Nat.le_of_ble_eq_true rfl) rfl ?_
          refine v_iload_n F (pc := 50) dX0_lowestFree_50 rfl ?_
          refine v_iload_n F (pc := 51) dX0_lowestFree_51 rfl ?_
          refine v_icmp_ne F (pc := 52) (a := (fr (cEm τ 6 k) s) + 1) (b := n) 66 dX0_lowestFree_52 (by decide) (by omega) (by omega) (fun c_6 => ?_) (fun c_6 => ?_)
          · have hq9 := c_6
            refine v_iinc F (pc := 66) (lo' := [some (.ref (P 5)), some (.int (iI (k))), some (.int (iI (n))), some (.int (iI ((fr (cEm τ 6 k) s) + 1))), some (.int (iI (s + 1)))]) dX0_lowestFree_66 rfl (Nat.le_of_ble_eq_true rfl) rfl ?_
            refine v_goto F (pc := 69) 5 dX0_lowestFree_69 (by decide) ?_
            have e_0 : fr (cEm τ 6 k) (s + 1) = (fr (cEm τ 6 k) s) + 1 := by rw [fr_s _ hs0, hE]; rfl
            have ih2 := ih (s + 1) (by omega) (by omega) (no_s hno (decide_eq_false (by rw [e_0]; exact hq9))) (by omega)
            rw [e_0] at ih2
            exact ih2
          · have hq9 := c_6
            refine v_iload_n F (pc := 55) dX0_lowestFree_55 rfl ?_
            refine v_iload F (pc := 56) dX0_lowestFree_56 rfl ?_
            refine v_iload_n F (pc := 58) dX0_lowestFree_58 rfl ?_
            refine v_isub F (pc := 59) (a := s) (b := n) dX0_lowestFree_59 ?_
            refine v_iconst F (pc := 60) dX0_lowestFree_60 ?_
            refine v_iadd F (pc := 61) (a := s - n) (b := 1) dX0_lowestFree_61 ?_
            refine v_callNp F (pc := 62) (As := [.int (iI (k)), .int (iI ((s - n) + 1))]) (rest := []) cn_X0_150 ct_X4_cellAt (k_X4_cellAt l g k ((s - n) + 1)) dX0_lowestFree_62 rfl rfl (Nat.le_of_ble_eq_true rfl) (Nat.le_of_ble_eq_true rfl) (Nat.le_of_ble_eq_true rfl) (Nat.le_of_ble_eq_true rfl) (Nat.le_of_ble_eq_true rfl) ?_
            refine v_iret F (pc := 65) (z := (iI (k * 20 + ((s - n) + 1)))) dX0_lowestFree_65 rfl rfl (Nat.le_of_ble_eq_true rfl) (Nat.le_of_ble_eq_true rfl) ?_
            have e9 : fr (cEm τ 6 k) (s + 1) = n := by rw [fr_s _ hs0, hE]; exact hq9
            have e8 : low (cEm τ 6 k) n (τ 41 (ad r 2 k)) = s := ff_at hs0 (by omega) (decide_eq_true e9) hno
            exact ⟨congrArg (fun z => some (Value.int (iI z))) (by show _ = cLow r τ 6 k n; unfold cLow; rw [e8, if_neg (by omega)]), rfl⟩
  exact LP5 _ 0 (Int.le_refl _) (by omega) no_0 (Nat.lt_succ_self _)
-- X0_lowestFree
set_option maxRecDepth 100000 in
set_option maxHeartbeats 8000000 in
theorem k_X0_lowestFree_12 (l : Launch) (g : gT) {P K : Nat → Nat} {r : Nat → Int → Option Nat} {cp : Nat → Nat} {b b' : Nat} {τ : sT} (hk : cok P K cp) (hV : CV K r cp τ) (hW : Wb τ 12) (k : Int) (hk2 : 0 ≤ k ∧ k < τ 55 0) (n : Int) (hn : 1 ≤ n ∧ n ≤ 20) : CM l g yX0_lowestFree cX0_lowestFree 5 (some .int) ({ frames := 4, cells := 0, slots := 0, locals := 84 }) [.ref (P 12), .int (iI (k)), .int (iI (n))] (cheap g P K r cp b b' τ) (pV (some (.int (iI (cLow r τ (12 + 1) k n)))) (cheap g P K r cp b b' τ)) (noX) := by
  refine CM.of (lo := [some (.ref (P 12)), some (.int (iI (k))), some (.int (iI (n))), none, none]) (by decide) (Nat.le_of_ble_eq_true rfl) (by simp [Value.category]) rfl ?_
  intro pX eX sX mX bX tX cX AX F htab hmn
  have F : Fx pX l sX mX ([.ref (P 12), .int (iI (k)), .int (iI (n))] : List Value).toArray tX cX cX0_lowestFree 5 (some .int) RX0 g AX := F
  have hM := hV.1
  have hR := hV.2.1
  have hL0 := hV.2.2.1
  have hL1 := hV.2.2.2.1
  have hL2 := hV.2.2.2.2.1
  have hS20 := hV.2.2.2.2.2.1
  have hS21 := hV.2.2.2.2.2.2.1
  have hS22 := hV.2.2.2.2.2.2.2.1
  have hS2 := hV.2.2.2.2.2.2.2.2.1
  have hn8 : 0 ≤ τ 55 0 ∧ τ 55 0 ≤ 8 := ⟨hL2.1, hL2.2.2.2.1⟩
  have hn60 : 0 ≤ τ 53 0 ∧ τ 53 0 ≤ 60 := ⟨hL0.1, hL0.2.2.2.1⟩
  have hW1 : ∀ z : Int, 0 ≤ z → z < 160 → -1 ≤ τ 13 z ∧ τ 13 z ≤ 1000000 := hW.1
  have hW2 : ∀ z : Int, 0 ≤ z → z < 8 → -1000000 ≤ τ 14 z ∧ τ 14 z ≤ 1000000 := hW.2.1
  have hW3 : ∀ z : Int, 0 ≤ z → z < 8 → -1000000 ≤ τ 15 z ∧ τ 15 z ≤ 1000000 := hW.2.2.1
  have hW5 : ∀ z : Int, 0 ≤ z → z < 8 → -1000000 ≤ τ 17 z ∧ τ 17 z ≤ 1000000 := hW.2.2.2.1
  have hW6 : ∀ z : Int, 0 ≤ z → z < 8 → -1000000 ≤ τ 18 z ∧ τ 18 z ≤ 1000000 := hW.2.2.2.2
  have hr9 := hR _ (hL2.2.2.2.2 k hk2.1 hk2.2).2
  refine v_iconst F (pc := 0) dX0_lowestFree_0 ?_
  refine v_istore_n F (pc := 1) (lo' := [some (.ref (P 12)), some (.int (iI (k))), some (.int (iI (n))), some (.int (iI (0))), none]) dX0_lowestFree_1 (Nat.le_of_ble_eq_true rfl) rfl ?_
  refine v_iconst F (pc := 2) dX0_lowestFree_2 ?_
  refine v_istore F (pc := 3) (lo' := [some (.ref (P 12)), some (.int (iI (k))), some (.int (iI (n))), some (.int (iI (0))), some (.int (iI (0)))]) dX0_lowestFree_3 (Nat.le_of_ble_eq_true rfl) rfl ?_
  have LP5 : ∀ (N_ : Nat) (s : Int), (0 ≤ s) → (s ≤ (τ 41 (ad r 2 k))) → (∀ j, 0 ≤ j → j < s → decide (fr (cEm τ 13 k) (j + 1) = n) = false) → ((τ 41 (ad r 2 k)) - s).toNat < N_ → VE pX l eX ({ frames := 4, cells := 0, slots := 0, locals := 84 }) sX mX ([.ref (P 12), .int (iI (k)), .int (iI (n))] : List Value).toArray bX tX cX 5 g AX (cheap g P K r cp b b' τ) 0 0 5 [some (.ref (P 12)), some (.int (iI (k))), some (.int (iI (n))), some (.int (iI (fr (cEm τ 13 k) s))), some (.int (iI (s)))] [] (pV (some (.int (iI (cLow r τ (12 + 1) k n)))) (cheap g P K r cp b b' τ)) (noX) 0 0 := by
    intro N_
    induction N_ with
    | zero => intro s _ _ _ hm_; exact absurd hm_ (Nat.not_lt_zero _)
    | succ N_ ih =>
      intro s hs0 hs1 hno hm_
      have hfr := fr_rng (cEm τ 13 k) hs0
      refine v_iload F (pc := 5) dX0_lowestFree_5 rfl ?_
      refine v_aload_n F (pc := 7) dX0_lowestFree_7 rfl ?_
      refine v_getf F (pc := 8) fd_X0_26_3 (v := .ref (P 1)) dX0_lowestFree_8 (ch_12 hk) rfl ?_
      refine v_getf F (pc := 11) fd_X0_85_6 (v := .ref (P 19)) dX0_lowestFree_11 (ch_1 hk) rfl ?_
      refine v_iload_n F (pc := 14) dX0_lowestFree_14 rfl ?_
      refine v_callVp F (pc := 15) (As := [.int (iI (k))]) (rest := [.int (iI (s))]) ci_X0_97 ct_Jx4a65c_get_915e3 cs_Jx4a65c_get_915e3 (kl_get2 l g (τ := τ) (r := r) (cp := cp) hk hL2 (k := k) (by omega) (show (k : Int) < τ 55 0 by omega)) dX0_lowestFree_15 (k0 := 2) rfl rfl (ch_19 hk) rfl rfl (Nat.le_of_ble_eq_true rfl) (Nat.le_of_ble_eq_true rfl) (Nat.le_of_ble_eq_true rfl) (Nat.le_of_ble_eq_true rfl) (Nat.le_of_ble_eq_true rfl) ?_ (fun _ _ z => z.elim)
      have kq_1 : K (ad r 2 k) = 2 := (hL2.2.2.2.2 k (by omega) (show (k : Int) < τ 55 0 by omega)).2
      have kq_1b := hR _ kq_1
      refine v_castS F (pc := 18) (ci := 5) rfl tk_X0_101 dX0_lowestFree_18 (ch_r hk kq_1) ?_
      refine v_getf F (pc := 21) fd_X0_149_5 (v := .int (iI (τ 41 (ad r 2 k)))) dX0_lowestFree_21 (ch_r hk kq_1) rfl ?_
      refine v_icmp_ge F (pc := 24) (a := s) (b := τ 41 (ad r 2 k)) 72 dX0_lowestFree_24 (by decide) (by omega) (by omega) (fun c_2 => ?_) (fun c_2 => ?_)
      · refine v_iconst F (pc := 72) dX0_lowestFree_72 ?_
        refine v_iret F (pc := 73) (z := (iI (-1))) dX0_lowestFree_73 rfl rfl (Nat.le_of_ble_eq_true rfl) (Nat.le_of_ble_eq_true rfl) ?_
        have e8 : low (cEm τ 13 k) n (τ 41 (ad r 2 k)) = -1 := ff_none (fun j q1 q2 => hno j q1 (by omega))
        exact ⟨congrArg (fun z => some (Value.int (iI z))) (by show _ = cLow r τ 13 k n; unfold cLow; rw [e8, if_pos rfl]), rfl⟩
      · refine v_aload_n F (pc := 27) dX0_lowestFree_27 rfl ?_
        refine v_getf F (pc := 28) fd_X0_9_3 (v := .ref (P 13)) dX0_lowestFree_28 (ch_12 hk) rfl ?_
        refine v_iload_n F (pc := 31) dX0_lowestFree_31 rfl ?_
        refine v_iload F (pc := 32) dX0_lowestFree_32 rfl ?_
        refine v_callNp F (pc := 34) (As := [.int (iI (k)), .int (iI (s))]) (rest := [.ref (P 13)]) cn_X0_150 ct_X4_cellAt (k_X4_cellAt l g k s) dX0_lowestFree_34 rfl rfl (Nat.le_of_ble_eq_true rfl) (Nat.le_of_ble_eq_true rfl) (Nat.le_of_ble_eq_true rfl) (Nat.le_of_ble_eq_true rfl) (Nat.le_of_ble_eq_true rfl) ?_
        refine v_iald F (pc := 37) (n := 160) (f := τ 13) (z := k * 20 + s) dX0_lowestFree_37 (ch_13 hk) (by omega) (by decide) ?_
        have bd_3 := hW1 (k * 20 + s) (by omega) (by omega)
        refine v_iconst F (pc := 38) dX0_lowestFree_38 ?_
        refine v_icmp_ne F (pc := 39) (a := (τ 13) (k * 20 + s)) (b := -1) 48 dX0_lowestFree_39 (by decide) (by omega) (by omega) (fun c_4 => ?_) (fun c_4 => ?_)
        · have hE : cEm τ 13 k s = false := decide_eq_false c_4
          refine v_iconst F (pc := 48) dX0_lowestFree_48 ?_
          refine v_istore_n F (pc := 49) (lo' := [some (.ref (P 12)), some (.int (iI (k))), some (.int (iI (n))), some (.int (iI (0))), some (.int (iI (s)))]) dX0_lowestFree_49 (Nat.le_of_ble_eq_true rfl) rfl ?_
          refine v_iload_n F (pc := 50) dX0_lowestFree_50 rfl ?_
          refine v_iload_n F (pc := 51) dX0_lowestFree_51 rfl ?_
          refine v_icmp_ne F (pc := 52) (a := 0) (b := n) 66 dX0_lowestFree_52 (by decide) (by omega) (by omega) (fun c_5 => ?_) (fun c_5 => ?_)
          · have hq9 := c_5
            refine v_iinc F (pc := 66) (lo' := [some (.ref (P 12)), some (.int (iI (k))), some (.int (iI (n))), some (.int (iI (0))), some (.int (iI (s + 1)))]) dX0_lowestFree_66 rfl (Nat.le_of_ble_eq_true rfl) rfl ?_
            refine v_goto F (pc := 69) 5 dX0_lowestFree_69 (by decide) ?_
            have e_0 : fr (cEm τ 13 k) (s + 1) = 0 := by rw [fr_s _ hs0, hE]; rfl
            have ih2 := ih (s + 1) (by omega) (by omega) (no_s hno (decide_eq_false (by rw [e_0]; exact hq9))) (by omega)
            rw [e_0] at ih2
            exact ih2
          · have hq9 := c_5
            refine v_iload_n F (pc := 55) dX0_lowestFree_55 rfl ?_
            refine v_iload F (pc := 56) dX0_lowestFree_56 rfl ?_
            refine v_iload_n F (pc := 58) dX0_lowestFree_58 rfl ?_
            refine v_isub F (pc := 59) (a := s) (b := n) dX0_lowestFree_59 ?_
            refine v_iconst F (pc := 60) dX0_lowestFree_60 ?_
            refine v_iadd F (pc := 61) (a := s - n) (b := 1) dX0_lowestFree_61 ?_
            refine v_callNp F (pc := 62) (As := [.int (iI (k)), .int (iI ((s - n) + 1))]) (rest := []) cn_X0_150 ct_X4_cellAt (k_X4_cellAt l g k ((s - n) + 1)) dX0_lowestFree_62 rfl rfl (Nat.le_of_ble_eq_true rfl) (Nat.le_of_ble_eq_true rfl) (Nat.le_of_ble_eq_true rfl) (Nat.le_of_ble_eq_true rfl) (Nat.le_of_ble_eq_true rfl) ?_
            refine v_iret F (pc := 65) (z := (iI (k * 20 + ((s - n) + 1)))) dX0_lowestFree_65 rfl rfl (Nat.le_of_ble_eq_true rfl) (Nat.le_of_ble_eq_true rfl) ?_
            have e9 : fr (cEm τ 13 k) (s + 1) = n := by rw [fr_s _ hs0, hE]; exact hq9
            have e8 : low (cEm τ 13 k) n (τ 41 (ad r 2 k)) = s := ff_at hs0 (by omega) (decide_eq_true e9) hno
            exact ⟨congrArg (fun z => some (Value.int (iI z))) (by show _ = cLow r τ 13 k n; unfold cLow; rw [e8, if_neg (by omega)]), rfl⟩
        · have hE : cEm τ 13 k s = true := decide_eq_true c_4
          refine v_iload_n F (pc := 42) dX0_lowestFree_42 rfl ?_
          refine v_iconst F (pc := 43) dX0_lowestFree_43 ?_
          refine v_iadd F (pc := 44) (a := fr (cEm τ 13 k) s) (b := 1) dX0_lowestFree_44 ?_
          refine v_goto F (pc := 45) 49 dX0_lowestFree_45 (by decide) ?_
          refine v_istore_n F (pc := 49) (lo' := [some (.ref (P 12)), some (.int (iI (k))), some (.int (iI (n))), some (.int (iI ((fr (cEm τ 13 k) s) + 1))), some (.int (iI (s)))]) dX0_lowestFree_49 (Nat.le_of_ble_eq_true rfl) rfl ?_
          refine v_iload_n F (pc := 50) dX0_lowestFree_50 rfl ?_
          refine v_iload_n F (pc := 51) dX0_lowestFree_51 rfl ?_
          refine v_icmp_ne F (pc := 52) (a := (fr (cEm τ 13 k) s) + 1) (b := n) 66 dX0_lowestFree_52 (by decide) (by omega) (by omega) (fun c_6 => ?_) (fun c_6 => ?_)
          · have hq9 := c_6
            refine v_iinc F (pc := 66) (lo' := [some (.ref (P 12)), some (.int (iI (k))), some (.int (iI (n))), some (.int (iI ((fr (cEm τ 13 k) s) + 1))), some (.int (iI (s + 1)))]) dX0_lowestFree_66 rfl (Nat.le_of_ble_eq_true rfl) rfl ?_
            refine v_goto F (pc := 69) 5 dX0_lowestFree_69 (by decide) ?_
            have e_0 : fr (cEm τ 13 k) (s + 1) = (fr (cEm τ 13 k) s) + 1 := by rw [fr_s _ hs0, hE]; rfl
            have ih2 := ih (s + 1) (by omega) (by omega) (no_s hno (decide_eq_false (by rw [e_0]; exact hq9))) (by omega)
            rw [e_0] at ih2
            exact ih2
          · have hq9 := c_6
            refine v_iload_n F (pc := 55) dX0_lowestFree_55 rfl ?_
            refine v_iload F (pc := 56) dX0_lowestFree_56 rfl ?_
            refine v_iload_n F (pc := 58) dX0_lowestFree_58 rfl ?_
            refine v_isub F (pc := 59) (a := s) (b := n) dX0_lowestFree_59 ?_
            refine v_iconst F (pc := 60) dX0_lowestFree_60 ?_
            refine v_iadd F (pc := 61) (a := s - n) (b := 1) dX0_lowestFree_61 ?_
            refine v_callNp F (pc := 62) (As := [.int (iI (k)), .int (iI ((s - n) + 1))]) (rest := []) cn_X0_150 ct_X4_cellAt (k_X4_cellAt l g k ((s - n) + 1)) dX0_lowestFree_62 rfl rfl (Nat.le_of_ble_eq_true rfl) (Nat.le_of_ble_eq_true rfl) (Nat.le_of_ble_eq_true rfl) (Nat.le_of_ble_eq_true rfl) (Nat.le_of_ble_eq_true rfl) ?_
            refine v_iret F (pc := 65) (z := (iI (k * 20 + ((s - n) + 1)))) dX0_lowestFree_65 rfl rfl (Nat.le_of_ble_eq_true rfl) (Nat.le_of_ble_eq_true rfl) ?_
            have e9 : fr (cEm τ 13 k) (s + 1) = n := by rw [fr_s _ hs0, hE]; exact hq9
            have e8 : low (cEm τ 13 k) n (τ 41 (ad r 2 k)) = s := ff_at hs0 (by omega) (decide_eq_true e9) hno
            exact ⟨congrArg (fun z => some (Value.int (iI z))) (by show _ = cLow r τ 13 k n; unfold cLow; rw [e8, if_neg (by omega)]), rfl⟩
  exact LP5 _ 0 (Int.le_refl _) (by omega) no_0 (Nat.lt_succ_self _)
theorem k_X0_lowestFree (l : Launch) (g : gT) {w : Nat} (hw : w = 5 ∨ w = 12) {P K : Nat → Nat} {r : Nat → Int → Option Nat} {cp : Nat → Nat} {b b' : Nat} {τ : sT} (hk : cok P K cp) (hV : CV K r cp τ) (hW : Wb τ w) (k : Int) (hk2 : 0 ≤ k ∧ k < τ 55 0) (n : Int) (hn : 1 ≤ n ∧ n ≤ 20) : CM l g yX0_lowestFree cX0_lowestFree 5 (some .int) { frames := 4, cells := 0, slots := 0, locals := 84 } [.ref (P w), .int (iI (k)), .int (iI (n))] (cheap g P K r cp b b' τ) (pV (some (.int (iI (cLow r τ (w + 1) k n)))) (cheap g P K r cp b b' τ)) (noX) := by
  rcases hw with rfl | rfl
  · exact k_X0_lowestFree_5 l g hk hV hW k hk2 n hn
  · exact k_X0_lowestFree_12 l g hk hV hW k hk2 n hn
-- X0_fitIn
set_option maxRecDepth 100000 in
set_option maxHeartbeats 8000000 in
theorem k_X0_fitIn_5 (l : Launch) (g : gT) {P K : Nat → Nat} {r : Nat → Int → Option Nat} {cp : Nat → Nat} {b b' : Nat} {τ : sT} (hk : cok P K cp) (hV : CV K r cp τ) (hW : Wb τ 5) (k : Int) (hk2 : 0 ≤ k ∧ k < τ 55 0) {m : Nat} (hm : K m = 1) : CM l g yX0_fitIn cX0_fitIn 3 (some .int) ({ frames := 7, cells := 0, slots := 0, locals := 153 }) [.ref (P 5), .int (iI (k)), .ref m] (cheap g P K r cp b b' τ) (pV (some (.int (iI (cFit r τ 5 k m)))) (cheap g P K r cp b b' τ)) (noX) := by
  refine CM.of (lo := [some (.ref (P 5)), some (.int (iI (k))), some (.ref m)]) (by decide) (Nat.le_of_ble_eq_true rfl) (by simp [Value.category]) rfl ?_
  intro pX eX sX mX bX tX cX AX F htab hmn
  have F : Fx pX l sX mX ([.ref (P 5), .int (iI (k)), .ref m] : List Value).toArray tX cX cX0_fitIn 3 (some .int) RX0 g AX := F
  have hM := hV.1
  have hR := hV.2.1
  have hL0 := hV.2.2.1
  have hL1 := hV.2.2.2.1
  have hL2 := hV.2.2.2.2.1
  have hS20 := hV.2.2.2.2.2.1
  have hS21 := hV.2.2.2.2.2.2.1
  have hS22 := hV.2.2.2.2.2.2.2.1
  have hS2 := hV.2.2.2.2.2.2.2.2.1
  have hn8 : 0 ≤ τ 55 0 ∧ τ 55 0 ≤ 8 := ⟨hL2.1, hL2.2.2.2.1⟩
  have hn60 : 0 ≤ τ 53 0 ∧ τ 53 0 ≤ 60 := ⟨hL0.1, hL0.2.2.2.1⟩
  have hW1 : ∀ z : Int, 0 ≤ z → z < 160 → -1 ≤ τ 6 z ∧ τ 6 z ≤ 1000000 := hW.1
  have hW2 : ∀ z : Int, 0 ≤ z → z < 8 → -1000000 ≤ τ 7 z ∧ τ 7 z ≤ 1000000 := hW.2.1
  have hW3 : ∀ z : Int, 0 ≤ z → z < 8 → -1000000 ≤ τ 8 z ∧ τ 8 z ≤ 1000000 := hW.2.2.1
  have hW5 : ∀ z : Int, 0 ≤ z → z < 8 → -1000000 ≤ τ 10 z ∧ τ 10 z ≤ 1000000 := hW.2.2.2.1
  have hW6 : ∀ z : Int, 0 ≤ z → z < 8 → -1000000 ≤ τ 11 z ∧ τ 11 z ≤ 1000000 := hW.2.2.2.2
  have hmb := hM m hm
  have hp0 := m_pw_2000 (c := τ 34 m) (f := 0) hmb.2.2.1
  have hp1 := m_pw_2000 (c := τ 34 m) (f := 1) hmb.2.2.1
  refine v_aload_n F (pc := 0) dX0_fitIn_0 rfl ?_
  refine v_iload_n F (pc := 1) dX0_fitIn_1 rfl ?_
  refine v_aload_n F (pc := 2) dX0_fitIn_2 rfl ?_
  refine v_callVp F (pc := 3) (As := [.int (iI (k)), .ref m]) (rest := []) ci_X0_110 ct_X0_bears cs_X0_bears (k_X0_bears l g (Or.inl rfl) hk (τ := τ) (K := K) (r := r) (cp := cp) (b := b) (b' := b') hV hW k (by omega) hm) dX0_fitIn_3 (k0 := 3) rfl rfl (ch_5 hk) rfl rfl (Nat.le_of_ble_eq_true rfl) (Nat.le_of_ble_eq_true rfl) (Nat.le_of_ble_eq_true rfl) (Nat.le_of_ble_eq_true rfl) (Nat.le_of_ble_eq_true rfl) ?_ (fun _ _ z => z.elim)
  refine v_if_eqB F (pc := 6) (b := (cBE r τ 5 k m)) 21 dX0_fitIn_6 (by decide) (fun c_1 => ?_) (fun c_1 => ?_)
  · have hB9 := c_1
    refine v_iconst F (pc := 21) dX0_fitIn_21 ?_
    refine v_iret F (pc := 22) (z := (iI (-1))) dX0_fitIn_22 rfl rfl (Nat.le_of_ble_eq_true rfl) (Nat.le_of_ble_eq_true rfl) ?_
    exact ⟨congrArg (fun z => some (Value.int (iI z))) (show _ = cFit r τ 5 k m from (if_neg (fun z => by rw [hB9] at z; cases z)).symm), rfl⟩
  · have hB9 := c_1
    refine v_aload_n F (pc := 9) dX0_fitIn_9 rfl ?_
    refine v_iload_n F (pc := 10) dX0_fitIn_10 rfl ?_
    refine v_aload_n F (pc := 11) dX0_fitIn_11 rfl ?_
    refine v_getf F (pc := 12) fd_X0_42_4 (v := .int (iI (τ 31 (m : Nat)))) dX0_fitIn_12 (ch_m hk hm) rfl ?_
    refine v_callVp F (pc := 15) (As := [.int (iI (k)), .int (iI (τ 31 (m : Nat)))]) (rest := []) ci_X0_114 ct_X0_lowestFree cs_X0_lowestFree (k_X0_lowestFree l g (Or.inl rfl) hk (τ := τ) (K := K) (r := r) (cp := cp) (b := b) (b' := b') hV hW k (by omega) (τ 31 (m : Nat)) (by omega)) dX0_fitIn_15 (k0 := 3) rfl rfl (ch_5 hk) rfl rfl (Nat.le_of_ble_eq_true rfl) (Nat.le_of_ble_eq_true rfl) (Nat.le_of_ble_eq_true rfl) (Nat.le_of_ble_eq_true rfl) (Nat.le_of_ble_eq_true rfl) ?_ (fun _ _ z => z.elim)
    refine v_goto F (pc := 18) 22 dX0_fitIn_18 (by decide) ?_
    refine v_iret F (pc := 22) (z := (iI (cLow r τ 6 k (τ 31 (m : Nat))))) dX0_fitIn_22 rfl rfl (Nat.le_of_ble_eq_true rfl) (Nat.le_of_ble_eq_true rfl) ?_
    exact ⟨congrArg (fun z => some (Value.int (iI z))) (show _ = cFit r τ 5 k m from (if_pos hB9).symm), rfl⟩
-- X0_fitIn
set_option maxRecDepth 100000 in
set_option maxHeartbeats 8000000 in
theorem k_X0_fitIn_12 (l : Launch) (g : gT) {P K : Nat → Nat} {r : Nat → Int → Option Nat} {cp : Nat → Nat} {b b' : Nat} {τ : sT} (hk : cok P K cp) (hV : CV K r cp τ) (hW : Wb τ 12) (k : Int) (hk2 : 0 ≤ k ∧ k < τ 55 0) {m : Nat} (hm : K m = 1) : CM l g yX0_fitIn cX0_fitIn 3 (some .int) ({ frames := 7, cells := 0, slots := 0, locals := 153 }) [.ref (P 12), .int (iI (k)), .ref m] (cheap g P K r cp b b' τ) (pV (some (.int (iI (cFit r τ 12 k m)))) (cheap g P K r cp b b' τ)) (noX) := by
  refine CM.of (lo := [some (.ref (P 12)), some (.int (iI (k))), some (.ref m)]) (by decide) (Nat.le_of_ble_eq_true rfl) (by simp [Value.category]) rfl ?_
  intro pX eX sX mX bX tX cX AX F htab hmn
  have F : Fx pX l sX mX ([.ref (P 12), .int (iI (k)), .ref m] : List Value).toArray tX cX cX0_fitIn 3 (some .int) RX0 g AX := F
  have hM := hV.1
  have hR := hV.2.1
  have hL0 := hV.2.2.1
  have hL1 := hV.2.2.2.1
  have hL2 := hV.2.2.2.2.1
  have hS20 := hV.2.2.2.2.2.1
  have hS21 := hV.2.2.2.2.2.2.1
  have hS22 := hV.2.2.2.2.2.2.2.1
  have hS2 := hV.2.2.2.2.2.2.2.2.1
  have hn8 : 0 ≤ τ 55 0 ∧ τ 55 0 ≤ 8 := ⟨hL2.1, hL2.2.2.2.1⟩
  have hn60 : 0 ≤ τ 53 0 ∧ τ 53 0 ≤ 60 := ⟨hL0.1, hL0.2.2.2.1⟩
  have hW1 : ∀ z : Int, 0 ≤ z → z < 160 → -1 ≤ τ 13 z ∧ τ 13 z ≤ 1000000 := hW.1
  have hW2 : ∀ z : Int, 0 ≤ z → z < 8 → -1000000 ≤ τ 14 z ∧ τ 14 z ≤ 1000000 := hW.2.1
  have hW3 : ∀ z : Int, 0 ≤ z → z < 8 → -1000000 ≤ τ 15 z ∧ τ 15 z ≤ 1000000 := hW.2.2.1
  have hW5 : ∀ z : Int, 0 ≤ z → z < 8 → -1000000 ≤ τ 17 z ∧ τ 17 z ≤ 1000000 := hW.2.2.2.1
  have hW6 : ∀ z : Int, 0 ≤ z → z < 8 → -1000000 ≤ τ 18 z ∧ τ 18 z ≤ 1000000 := hW.2.2.2.2
  have hmb := hM m hm
  have hp0 := m_pw_2000 (c := τ 34 m) (f := 0) hmb.2.2.1
  have hp1 := m_pw_2000 (c := τ 34 m) (f := 1) hmb.2.2.1
  refine v_aload_n F (pc := 0) dX0_fitIn_0 rfl ?_
  refine v_iload_n F (pc := 1) dX0_fitIn_1 rfl ?_
  refine v_aload_n F (pc := 2) dX0_fitIn_2 rfl ?_
  refine v_callVp F (pc := 3) (As := [.int (iI (k)), .ref m]) (rest := []) ci_X0_110 ct_X0_bears cs_X0_bears (k_X0_bears l g (Or.inr rfl) hk (τ := τ) (K := K) (r := r) (cp := cp) (b := b) (b' := b') hV hW k (by omega) hm) dX0_fitIn_3 (k0 := 3) rfl rfl (ch_12 hk) rfl rfl (Nat.le_of_ble_eq_true rfl) (Nat.le_of_ble_eq_true rfl) (Nat.le_of_ble_eq_true rfl) (Nat.le_of_ble_eq_true rfl) (Nat.le_of_ble_eq_true rfl) ?_ (fun _ _ z => z.elim)
  refine v_if_eqB F (pc := 6) (b := (cBE r τ 12 k m)) 21 dX0_fitIn_6 (by decide) (fun c_1 => ?_) (fun c_1 => ?_)
  · have hB9 := c_1
    refine v_iconst F (pc := 21) dX0_fitIn_21 ?_
    refine v_iret F (pc := 22) (z := (iI (-1))) dX0_fitIn_22 rfl rfl (Nat.le_of_ble_eq_true rfl) (Nat.le_of_ble_eq_true rfl) ?_
    exact ⟨congrArg (fun z => some (Value.int (iI z))) (show _ = cFit r τ 12 k m from (if_neg (fun z => by rw [hB9] at z; cases z)).symm), rfl⟩
  · have hB9 := c_1
    refine v_aload_n F (pc := 9) dX0_fitIn_9 rfl ?_
    refine v_iload_n F (pc := 10) dX0_fitIn_10 rfl ?_
    refine v_aload_n F (pc := 11) dX0_fitIn_11 rfl ?_
    refine v_getf F (pc := 12) fd_X0_42_4 (v := .int (iI (τ 31 (m : Nat)))) dX0_fitIn_12 (ch_m hk hm) rfl ?_
    refine v_callVp F (pc := 15) (As := [.int (iI (k)), .int (iI (τ 31 (m : Nat)))]) (rest := []) ci_X0_114 ct_X0_lowestFree cs_X0_lowestFree (k_X0_lowestFree l g (Or.inr rfl) hk (τ := τ) (K := K) (r := r) (cp := cp) (b := b) (b' := b') hV hW k (by omega) (τ 31 (m : Nat)) (by omega)) dX0_fitIn_15 (k0 := 3) rfl rfl (ch_12 hk) rfl rfl (Nat.le_of_ble_eq_true rfl) (Nat.le_of_ble_eq_true rfl) (Nat.le_of_ble_eq_true rfl) (Nat.le_of_ble_eq_true rfl) (Nat.le_of_ble_eq_true rfl) ?_ (fun _ _ z => z.elim)
    refine v_goto F (pc := 18) 22 dX0_fitIn_18 (by decide) ?_
    refine v_iret F (pc := 22) (z := (iI (cLow r τ 13 k (τ 31 (m : Nat))))) dX0_fitIn_22 rfl rfl (Nat.le_of_ble_eq_true rfl) (Nat.le_of_ble_eq_true rfl) ?_
    exact ⟨congrArg (fun z => some (Value.int (iI z))) (show _ = cFit r τ 12 k m from (if_pos hB9).symm), rfl⟩
theorem k_X0_fitIn (l : Launch) (g : gT) {w : Nat} (hw : w = 5 ∨ w = 12) {P K : Nat → Nat} {r : Nat → Int → Option Nat} {cp : Nat → Nat} {b b' : Nat} {τ : sT} (hk : cok P K cp) (hV : CV K r cp τ) (hW : Wb τ w) (k : Int) (hk2 : 0 ≤ k ∧ k < τ 55 0) {m : Nat} (hm : K m = 1) : CM l g yX0_fitIn cX0_fitIn 3 (some .int) { frames := 7, cells := 0, slots := 0, locals := 153 } [.ref (P w), .int (iI (k)), .ref m] (cheap g P K r cp b b' τ) (pV (some (.int (iI (cFit r τ w k m)))) (cheap g P K r cp b b' τ)) (noX) := by
  rcases hw with rfl | rfl
  · exact k_X0_fitIn_5 l g hk hV hW k hk2 hm
  · exact k_X0_fitIn_12 l g hk hV hW k hk2 hm
-- X0_firstFit
set_option maxRecDepth 100000 in
set_option maxHeartbeats 8000000 in
theorem k_X0_firstFit_5 (l : Launch) (g : gT) {P K : Nat → Nat} {r : Nat → Int → Option Nat} {cp : Nat → Nat} {b b' : Nat} {τ : sT} (hk : cok P K cp) (hV : CV K r cp τ) (hW : Wb τ 5) {m : Nat} (hm : K m = 1) : CM l g yX0_firstFit cX0_firstFit 4 (some .int) ({ frames := 8, cells := 0, slots := 0, locals := 175 }) [.ref (P 5), .ref m] (cheap g P K r cp b b' τ) (pV (some (.int (iI (cFF r τ 5 m)))) (cheap g P K r cp b b' τ)) (noX) := by
  refine CM.of (lo := [some (.ref (P 5)), some (.ref m), none, none]) (by decide) (Nat.le_of_ble_eq_true rfl) (by simp [Value.category]) rfl ?_
  intro pX eX sX mX bX tX cX AX F htab hmn
  have F : Fx pX l sX mX ([.ref (P 5), .ref m] : List Value).toArray tX cX cX0_firstFit 4 (some .int) RX0 g AX := F
  have hM := hV.1
  have hR := hV.2.1
  have hL0 := hV.2.2.1
  have hL1 := hV.2.2.2.1
  have hL2 := hV.2.2.2.2.1
  have hS20 := hV.2.2.2.2.2.1
  have hS21 := hV.2.2.2.2.2.2.1
  have hS22 := hV.2.2.2.2.2.2.2.1
  have hS2 := hV.2.2.2.2.2.2.2.2.1
  have hn8 : 0 ≤ τ 55 0 ∧ τ 55 0 ≤ 8 := ⟨hL2.1, hL2.2.2.2.1⟩
  have hn60 : 0 ≤ τ 53 0 ∧ τ 53 0 ≤ 60 := ⟨hL0.1, hL0.2.2.2.1⟩
  have hW1 : ∀ z : Int, 0 ≤ z → z < 160 → -1 ≤ τ 6 z ∧ τ 6 z ≤ 1000000 := hW.1
  have hW2 : ∀ z : Int, 0 ≤ z → z < 8 → -1000000 ≤ τ 7 z ∧ τ 7 z ≤ 1000000 := hW.2.1
  have hW3 : ∀ z : Int, 0 ≤ z → z < 8 → -1000000 ≤ τ 8 z ∧ τ 8 z ≤ 1000000 := hW.2.2.1
  have hW5 : ∀ z : Int, 0 ≤ z → z < 8 → -1000000 ≤ τ 10 z ∧ τ 10 z ≤ 1000000 := hW.2.2.2.1
  have hW6 : ∀ z : Int, 0 ≤ z → z < 8 → -1000000 ≤ τ 11 z ∧ τ 11 z ≤ 1000000 := hW.2.2.2.2
  have hmb := hM m hm
  have hp0 := m_pw_2000 (c := τ 34 m) (f := 0) hmb.2.2.1
  have hp1 := m_pw_2000 (c := τ 34 m) (f := 1) hmb.2.2.1
  refine v_iconst F (pc := 0) dX0_firstFit_0 ?_
  refine v_istore_n F (pc := 1) (lo' := [some (.ref (P 5)), some (.ref m), some (.int (iI (0))), none]) dX0_firstFit_1 (Nat.le_of_ble_eq_true rfl) rfl ?_
  have LP2 : ∀ (N_ : Nat) (k : Int), (0 ≤ k) → (k ≤ (τ 55 0)) → (∀ j, 0 ≤ j → j < k → decide (cFit r τ 5 j m ≠ -1) = false) → ((τ 55 0) - k).toNat < N_ → VE pX l eX ({ frames := 8, cells := 0, slots := 0, locals := 175 }) sX mX ([.ref (P 5), .ref m] : List Value).toArray bX tX cX 4 g AX (cheap g P K r cp b b' τ) 0 0 2 [some (.ref (P 5)), some (.ref m), some (.int (iI (k))), none] [] (pV (some (.int (iI (cFF r τ 5 m)))) (cheap g P K r cp b b' τ)) (noX) 0 0 := by
    intro N_
    induction N_ with
    | zero => intro k _ _ _ hm_; exact absurd hm_ (Nat.not_lt_zero _)
    | succ N_ ih =>
      intro k hk0 hk1 hno hm_
      refine v_iload_n F (pc := 2) dX0_firstFit_2 rfl ?_
      refine v_aload_n F (pc := 3) dX0_firstFit_3 rfl ?_
      refine v_getf F (pc := 4) fd_X0_26_3 (v := .ref (P 1)) dX0_firstFit_4 (ch_5 hk) rfl ?_
      refine v_getf F (pc := 7) fd_X0_85_6 (v := .ref (P 19)) dX0_firstFit_7 (ch_1 hk) rfl ?_
      refine v_callVp F (pc := 10) (As := []) (rest := [.int (iI (k))]) ci_X0_91 ct_Jx4a65c_size_8abf5 cs_Jx4a65c_size_8abf5 (k_Jx4a65c_size_8abf5 l g (n := τ 55 0) (ch_19 hk)) dX0_firstFit_10 (k0 := 2) rfl rfl (ch_19 hk) rfl rfl (Nat.le_of_ble_eq_true rfl) (Nat.le_of_ble_eq_true rfl) (Nat.le_of_ble_eq_true rfl) (Nat.le_of_ble_eq_true rfl) (Nat.le_of_ble_eq_true rfl) ?_ (fun _ _ z => z.elim)
      refine v_icmp_ge F (pc := 13) (a := k) (b := τ 55 0) 36 dX0_firstFit_13 (by decide) (by omega) (by omega) (fun c_1 => ?_) (fun c_1 => ?_)
      · refine v_iconst F (pc := 36) dX0_firstFit_36 ?_
        refine v_iret F (pc := 37) (z := (iI (-1))) dX0_firstFit_37 rfl rfl (Nat.le_of_ble_eq_true rfl) (Nat.le_of_ble_eq_true rfl) ?_
        have e8 : cFR r τ 5 m = -1 := ff_none (fun j q1 q2 => hno j q1 (by omega))
        exact ⟨congrArg (fun z => some (Value.int (iI z))) (by show _ = cFF r τ 5 m; unfold cFF; rw [e8, if_pos rfl]), rfl⟩
      · refine v_aload_n F (pc := 16) dX0_firstFit_16 rfl ?_
        refine v_iload_n F (pc := 17) dX0_firstFit_17 rfl ?_
        refine v_aload_n F (pc := 18) dX0_firstFit_18 rfl ?_
        refine v_callVp F (pc := 19) (As := [.int (iI (k)), .ref m]) (rest := []) ci_X0_106 ct_X0_fitIn cs_X0_fitIn (k_X0_fitIn l g (Or.inl rfl) hk (τ := τ) (K := K) (r := r) (cp := cp) (b := b) (b' := b') hV hW k (by omega) hm) dX0_firstFit_19 (k0 := 3) rfl rfl (ch_5 hk) rfl rfl (Nat.le_of_ble_eq_true rfl) (Nat.le_of_ble_eq_true rfl) (Nat.le_of_ble_eq_true rfl) (Nat.le_of_ble_eq_true rfl) (Nat.le_of_ble_eq_true rfl) ?_ (fun _ _ z => z.elim)
        have rg_2 := cFit_rng (r := r) (τ := τ) (w := 5) (k := k) (m := m) hV (by omega) (by omega) hm
        refine v_istore_n F (pc := 22) (lo' := [some (.ref (P 5)), some (.ref m), some (.int (iI (k))), some (.int (iI (cFit r τ 5 k m)))]) dX0_firstFit_22 (Nat.le_of_ble_eq_true rfl) rfl ?_
        refine v_iload_n F (pc := 23) dX0_firstFit_23 rfl ?_
        refine v_iconst F (pc := 24) dX0_firstFit_24 ?_
        refine v_icmp_eq F (pc := 25) (a := cFit r τ 5 k m) (b := -1) 30 dX0_firstFit_25 (by decide) (by omega) (by omega) (fun c_3 => ?_) (fun c_3 => ?_)
        · have hq9 := c_3
          refine v_iinc F (pc := 30) (lo' := [some (.ref (P 5)), some (.ref m), some (.int (iI (k + 1))), some (.int (iI (cFit r τ 5 k m)))]) dX0_firstFit_30 rfl (Nat.le_of_ble_eq_true rfl) rfl ?_
          refine v_goto F (pc := 33) 2 dX0_firstFit_33 (by decide) ?_
          have ih2 := ih (k + 1) (by omega) (by omega) (no_s hno (decide_eq_false (fun z => z hq9))) (by omega)
          exact V.fg (ih2) ⟨rfl, ⟨rfl, ⟨rfl, trivial⟩⟩⟩
        · have hq9 := c_3
          refine v_iload_n F (pc := 28) dX0_firstFit_28 rfl ?_
          refine v_iret F (pc := 29) (z := (iI (cFit r τ 5 k m))) dX0_firstFit_29 rfl rfl (Nat.le_of_ble_eq_true rfl) (Nat.le_of_ble_eq_true rfl) ?_
          have e8 : cFR r τ 5 m = k := ff_at hk0 (by omega) (decide_eq_true hq9) hno
          exact ⟨congrArg (fun z => some (Value.int (iI z))) (by show _ = cFF r τ 5 m; unfold cFF; rw [e8, if_neg (by omega)]), rfl⟩
  exact V.fg (LP2 _ 0 (Int.le_refl _) (by omega) no_0 (Nat.lt_succ_self _)) ⟨rfl, ⟨rfl, ⟨rfl, trivial⟩⟩⟩
-- X0_firstFit
set_option maxRecDepth 100000 in
set_option maxHeartbeats 8000000 in
theorem k_X0_firstFit_12 (l : Launch) (g : gT) {P K : Nat → Nat} {r : Nat → Int → Option Nat} {cp : Nat → Nat} {b b' : Nat} {τ : sT} (hk : cok P K cp) (hV : CV K r cp τ) (hW : Wb τ 12) {m : Nat} (hm : K m = 1) : CM l g yX0_firstFit cX0_firstFit 4 (some .int) ({ frames := 8, cells := 0, slots := 0, locals := 175 }) [.ref (P 12), .ref m] (cheap g P K r cp b b' τ) (pV (some (.int (iI (cFF r τ 12 m)))) (cheap g P K r cp b b' τ)) (noX) := by
  refine CM.of (lo := [some (.ref (P 12)), some (.ref m), none, none]) (by decide) (Nat.le_of_ble_eq_true rfl) (by simp [Value.category]) rfl ?_
  intro pX eX sX mX bX tX cX AX F htab hmn
  have F : Fx pX l sX mX ([.ref (P 12), .ref m] : List Value).toArray tX cX cX0_firstFit 4 (some .int) RX0 g AX := F
  have hM := hV.1
  have hR := hV.2.1
  have hL0 := hV.2.2.1
  have hL1 := hV.2.2.2.1
  have hL2 := hV.2.2.2.2.1
  have hS20 := hV.2.2.2.2.2.1
  have hS21 := hV.2.2.2.2.2.2.1
  have hS22 := hV.2.2.2.2.2.2.2.1
  have hS2 := hV.2.2.2.2.2.2.2.2.1
  have hn8 : 0 ≤ τ 55 0 ∧ τ 55 0 ≤ 8 := ⟨hL2.1, hL2.2.2.2.1⟩
  have hn60 : 0 ≤ τ 53 0 ∧ τ 53 0 ≤ 60 := ⟨hL0.1, hL0.2.2.2.1⟩
  have hW1 : ∀ z : Int, 0 ≤ z → z < 160 → -1 ≤ τ 13 z ∧ τ 13 z ≤ 1000000 := hW.1
  have hW2 : ∀ z : Int, 0 ≤ z → z < 8 → -1000000 ≤ τ 14 z ∧ τ 14 z ≤ 1000000 := hW.2.1
  have hW3 : ∀ z : Int, 0 ≤ z → z < 8 → -1000000 ≤ τ 15 z ∧ τ 15 z ≤ 1000000 := hW.2.2.1
  have hW5 : ∀ z : Int, 0 ≤ z → z < 8 → -1000000 ≤ τ 17 z ∧ τ 17 z ≤ 1000000 := hW.2.2.2.1
  have hW6 : ∀ z : Int, 0 ≤ z → z < 8 → -1000000 ≤ τ 18 z ∧ τ 18 z ≤ 1000000 := hW.2.2.2.2
  have hmb := hM m hm
  have hp0 := m_pw_2000 (c := τ 34 m) (f := 0) hmb.2.2.1
  have hp1 := m_pw_2000 (c := τ 34 m) (f := 1) hmb.2.2.1
  refine v_iconst F (pc := 0) dX0_firstFit_0 ?_
  refine v_istore_n F (pc := 1) (lo' := [some (.ref (P 12)), some (.ref m), some (.int (iI (0))), none]) dX0_firstFit_1 (Nat.le_of_ble_eq_true rfl) rfl ?_
  have LP2 : ∀ (N_ : Nat) (k : Int), (0 ≤ k) → (k ≤ (τ 55 0)) → (∀ j, 0 ≤ j → j < k → decide (cFit r τ 12 j m ≠ -1) = false) → ((τ 55 0) - k).toNat < N_ → VE pX l eX ({ frames := 8, cells := 0, slots := 0, locals := 175 }) sX mX ([.ref (P 12), .ref m] : List Value).toArray bX tX cX 4 g AX (cheap g P K r cp b b' τ) 0 0 2 [some (.ref (P 12)), some (.ref m), some (.int (iI (k))), none] [] (pV (some (.int (iI (cFF r τ 12 m)))) (cheap g P K r cp b b' τ)) (noX) 0 0 := by
    intro N_
    induction N_ with
    | zero => intro k _ _ _ hm_; exact absurd hm_ (Nat.not_lt_zero _)
    | succ N_ ih =>
      intro k hk0 hk1 hno hm_
      refine v_iload_n F (pc := 2) dX0_firstFit_2 rfl ?_
      refine v_aload_n F (pc := 3) dX0_firstFit_3 rfl ?_
      refine v_getf F (pc := 4) fd_X0_26_3 (v := .ref (P 1)) dX0_firstFit_4 (ch_12 hk) rfl ?_
      refine v_getf F (pc := 7) fd_X0_85_6 (v := .ref (P 19)) dX0_firstFit_7 (ch_1 hk) rfl ?_
      refine v_callVp F (pc := 10) (As := []) (rest := [.int (iI (k))]) ci_X0_91 ct_Jx4a65c_size_8abf5 cs_Jx4a65c_size_8abf5 (k_Jx4a65c_size_8abf5 l g (n := τ 55 0) (ch_19 hk)) dX0_firstFit_10 (k0 := 2) rfl rfl (ch_19 hk) rfl rfl (Nat.le_of_ble_eq_true rfl) (Nat.le_of_ble_eq_true rfl) (Nat.le_of_ble_eq_true rfl) (Nat.le_of_ble_eq_true rfl) (Nat.le_of_ble_eq_true rfl) ?_ (fun _ _ z => z.elim)
      refine v_icmp_ge F (pc := 13) (a := k) (b := τ 55 0) 36 dX0_firstFit_13 (by decide) (by omega) (by omega) (fun c_1 => ?_) (fun c_1 => ?_)
      · refine v_iconst F (pc := 36) dX0_firstFit_36 ?_
        refine v_iret F (pc := 37) (z := (iI (-1))) dX0_firstFit_37 rfl rfl (Nat.le_of_ble_eq_true rfl) (Nat.le_of_ble_eq_true rfl) ?_
        have e8 : cFR r τ 12 m = -1 := ff_none (fun j q1 q2 => hno j q1 (by omega))
        exact ⟨congrArg (fun z => some (Value.int (iI z))) (by show _ = cFF r τ 12 m; unfold cFF; rw [e8, if_pos rfl]), rfl⟩
      · refine v_aload_n F (pc := 16) dX0_firstFit_16 rfl ?_
        refine v_iload_n F (pc := 17) dX0_firstFit_17 rfl ?_
        refine v_aload_n F (pc := 18) dX0_firstFit_18 rfl ?_
        refine v_callVp F (pc := 19) (As := [.int (iI (k)), .ref m]) (rest := []) ci_X0_106 ct_X0_fitIn cs_X0_fitIn (k_X0_fitIn l g (Or.inr rfl) hk (τ := τ) (K := K) (r := r) (cp := cp) (b := b) (b' := b') hV hW k (by omega) hm) dX0_firstFit_19 (k0 := 3) rfl rfl (ch_12 hk) rfl rfl (Nat.le_of_ble_eq_true rfl) (Nat.le_of_ble_eq_true rfl) (Nat.le_of_ble_eq_true rfl) (Nat.le_of_ble_eq_true rfl) (Nat.le_of_ble_eq_true rfl) ?_ (fun _ _ z => z.elim)
        have rg_2 := cFit_rng (r := r) (τ := τ) (w := 12) (k := k) (m := m) hV (by omega) (by omega) hm
        refine v_istore_n F (pc := 22) (lo' := [some (.ref (P 12)), some (.ref m), some (.int (iI (k))), some (.int (iI (cFit r τ 12 k m)))]) dX0_firstFit_22 (Nat.le_of_ble_eq_true rfl) rfl ?_
        refine v_iload_n F (pc := 23) dX0_firstFit_23 rfl ?_
        refine v_iconst F (pc := 24) dX0_firstFit_24 ?_
        refine v_icmp_eq F (pc := 25) (a := cFit r τ 12 k m) (b := -1) 30 dX0_firstFit_25 (by decide) (by omega) (by omega) (fun c_3 => ?_) (fun c_3 => ?_)
        · have hq9 := c_3
          refine v_iinc F (pc := 30) (lo' := [some (.ref (P 12)), some (.ref m), some (.int (iI (k + 1))), some (.int (iI (cFit r τ 12 k m)))]) dX0_firstFit_30 rfl (Nat.le_of_ble_eq_true rfl) rfl ?_
          refine v_goto F (pc := 33) 2 dX0_firstFit_33 (by decide) ?_
          have ih2 := ih (k + 1) (by omega) (by omega) (no_s hno (decide_eq_false (fun z => z hq9))) (by omega)
          exact V.fg (ih2) ⟨rfl, ⟨rfl, ⟨rfl, trivial⟩⟩⟩
        · have hq9 := c_3
          refine v_iload_n F (pc := 28) dX0_firstFit_28 rfl ?_
          refine v_iret F (pc := 29) (z := (iI (cFit r τ 12 k m))) dX0_firstFit_29 rfl rfl (Nat.le_of_ble_eq_true rfl) (Nat.le_of_ble_eq_true rfl) ?_
          have e8 : cFR r τ 12 m = k := ff_at hk0 (by omega) (decide_eq_true hq9) hno
          exact ⟨congrArg (fun z => some (Value.int (iI z))) (by show _ = cFF r τ 12 m; unfold cFF; rw [e8, if_neg (by omega)]), rfl⟩
  exact V.fg (LP2 _ 0 (Int.le_refl _) (by omega) no_0 (Nat.lt_succ_self _)) ⟨rfl, ⟨rfl, ⟨rfl, trivial⟩⟩⟩
theorem k_X0_firstFit (l : Launch) (g : gT) {w : Nat} (hw : w = 5 ∨ w = 12) {P K : Nat → Nat} {r : Nat → Int → Option Nat} {cp : Nat → Nat} {b b' : Nat} {τ : sT} (hk : cok P K cp) (hV : CV K r cp τ) (hW : Wb τ w) {m : Nat} (hm : K m = 1) : CM l g yX0_firstFit cX0_firstFit 4 (some .int) { frames := 8, cells := 0, slots := 0, locals := 175 } [.ref (P w), .ref m] (cheap g P K r cp b b' τ) (pV (some (.int (iI (cFF r τ w m)))) (cheap g P K r cp b b' τ)) (noX) := by
  rcases hw with rfl | rfl
  · exact k_X0_firstFit_5 l g hk hV hW hm
  · exact k_X0_firstFit_12 l g hk hV hW hm
-- X0_widestGap
set_option maxRecDepth 100000 in
set_option maxHeartbeats 8000000 in
theorem k_X0_widestGap_5 (l : Launch) (g : gT) {P K : Nat → Nat} {r : Nat → Int → Option Nat} {cp : Nat → Nat} {b b' : Nat} {τ : sT} (hk : cok P K cp) (hV : CV K r cp τ) (hW : Wb τ 5) (k : Int) (hk2 : 0 ≤ k ∧ k < τ 55 0) : CM l g yX0_widestGap cX0_widestGap 5 (some .int) ({ frames := 4, cells := 0, slots := 0, locals := 84 }) [.ref (P 5), .int (iI (k))] (cheap g P K r cp b b' τ) (pV (some (.int (iI (gp (cEm τ (5 + 1) k) (τ 41 (ad r 2 k)))))) (cheap g P K r cp b b' τ)) (noX) := by
  refine CM.of (lo := [some (.ref (P 5)), some (.int (iI (k))), none, none, none]) (by decide) (Nat.le_of_ble_eq_true rfl) (by simp [Value.category]) rfl ?_
  intro pX eX sX mX bX tX cX AX F htab hmn
  have F : Fx pX l sX mX ([.ref (P 5), .int (iI (k))] : List Value).toArray tX cX cX0_widestGap 5 (some .int) RX0 g AX := F
  have hM := hV.1
  have hR := hV.2.1
  have hL0 := hV.2.2.1
  have hL1 := hV.2.2.2.1
  have hL2 := hV.2.2.2.2.1
  have hS20 := hV.2.2.2.2.2.1
  have hS21 := hV.2.2.2.2.2.2.1
  have hS22 := hV.2.2.2.2.2.2.2.1
  have hS2 := hV.2.2.2.2.2.2.2.2.1
  have hn8 : 0 ≤ τ 55 0 ∧ τ 55 0 ≤ 8 := ⟨hL2.1, hL2.2.2.2.1⟩
  have hn60 : 0 ≤ τ 53 0 ∧ τ 53 0 ≤ 60 := ⟨hL0.1, hL0.2.2.2.1⟩
  have hW1 : ∀ z : Int, 0 ≤ z → z < 160 → -1 ≤ τ 6 z ∧ τ 6 z ≤ 1000000 := hW.1
  have hW2 : ∀ z : Int, 0 ≤ z → z < 8 → -1000000 ≤ τ 7 z ∧ τ 7 z ≤ 1000000 := hW.2.1
  have hW3 : ∀ z : Int, 0 ≤ z → z < 8 → -1000000 ≤ τ 8 z ∧ τ 8 z ≤ 1000000 := hW.2.2.1
  have hW5 : ∀ z : Int, 0 ≤ z → z < 8 → -1000000 ≤ τ 10 z ∧ τ 10 z ≤ 1000000 := hW.2.2.2.1
  have hW6 : ∀ z : Int, 0 ≤ z → z < 8 → -1000000 ≤ τ 11 z ∧ τ 11 z ≤ 1000000 := hW.2.2.2.2
  have hr9 := hR _ (hL2.2.2.2.2 k hk2.1 hk2.2).2
  refine v_iconst F (pc := 0) dX0_widestGap_0 ?_
  refine v_istore_n F (pc := 1) (lo' := [some (.ref (P 5)), some (.int (iI (k))), some (.int (iI (0))), none, none]) dX0_widestGap_1 (Nat.le_of_ble_eq_true rfl) rfl ?_
  refine v_iconst F (pc := 2) dX0_widestGap_2 ?_
  refine v_istore_n F (pc := 3) (lo' := [some (.ref (P 5)), some (.int (iI (k))), some (.int (iI (0))), some (.int (iI (0))), none]) dX0_widestGap_3 (Nat.le_of_ble_eq_true rfl) rfl ?_
  refine v_iconst F (pc := 4) dX0_widestGap_4 ?_
  refine v_istore F (pc := 5) (lo' := [some (.ref (P 5)), some (.int (iI (k))), some (.int (iI (0))), some (.int (iI (0))), some (.int (iI (0)))]) dX0_widestGap_5 (Nat.le_of_ble_eq_true rfl) rfl ?_
  have LP7 : ∀ (N_ : Nat) (s : Int), (0 ≤ s) → (s ≤ (τ 41 (ad r 2 k))) → ((τ 41 (ad r 2 k)) - s).toNat < N_ → VE pX l eX ({ frames := 4, cells := 0, slots := 0, locals := 84 }) sX mX ([.ref (P 5), .int (iI (k))] : List Value).toArray bX tX cX 5 g AX (cheap g P K r cp b b' τ) 0 0 7 [some (.ref (P 5)), some (.int (iI (k))), some (.int (iI (gp (cEm τ 6 k) s))), some (.int (iI (fr (cEm τ 6 k) s))), some (.int (iI (s)))] [] (pV (some (.int (iI (gp (cEm τ (5 + 1) k) (τ 41 (ad r 2 k)))))) (cheap g P K r cp b b' τ)) (noX) 0 0 := by
    intro N_
    induction N_ with
    | zero => intro s _ _ hm_; exact absurd hm_ (Nat.not_lt_zero _)
    | succ N_ ih =>
      intro s hs0 hs1 hm_
      have hfr := fr_rng (cEm τ 6 k) hs0
      have hgp := gp_rng (cEm τ 6 k) hs0
      refine v_iload F (pc := 7) dX0_widestGap_7 rfl ?_
      refine v_aload_n F (pc := 9) dX0_widestGap_9 rfl ?_
      refine v_getf F (pc := 10) fd_X0_26_3 (v := .ref (P 1)) dX0_widestGap_10 (ch_5 hk) rfl ?_
      refine v_getf F (pc := 13) fd_X0_85_6 (v := .ref (P 19)) dX0_widestGap_13 (ch_1 hk) rfl ?_
      refine v_iload_n F (pc := 16) dX0_widestGap_16 rfl ?_
      refine v_callVp F (pc := 17) (As := [.int (iI (k))]) (rest := [.int (iI (s))]) ci_X0_97 ct_Jx4a65c_get_915e3 cs_Jx4a65c_get_915e3 (kl_get2 l g (τ := τ) (r := r) (cp := cp) hk hL2 (k := k) (by omega) (show (k : Int) < τ 55 0 by omega)) dX0_widestGap_17 (k0 := 2) rfl rfl (ch_19 hk) rfl rfl (Nat.le_of_ble_eq_true rfl) (Nat.le_of_ble_eq_true rfl) (Nat.le_of_ble_eq_true rfl) (Nat.le_of_ble_eq_true rfl) (Nat.le_of_ble_eq_true rfl) ?_ (fun _ _ z => z.elim)
      have kq_1 : K (ad r 2 k) = 2 := (hL2.2.2.2.2 k (by omega) (show (k : Int) < τ 55 0 by omega)).2
      have kq_1b := hR _ kq_1
      refine v_castS F (pc := 20) (ci := 5) rfl tk_X0_101 dX0_widestGap_20 (ch_r hk kq_1) ?_
      refine v_getf F (pc := 23) fd_X0_149_5 (v := .int (iI (τ 41 (ad r 2 k)))) dX0_widestGap_23 (ch_r hk kq_1) rfl ?_
      refine v_icmp_ge F (pc := 26) (a := s) (b := τ 41 (ad r 2 k)) 64 dX0_widestGap_26 (by decide) (by omega) (by omega) (fun c_2 => ?_) (fun c_2 => ?_)
      · refine v_iload_n F (pc := 64) dX0_widestGap_64 rfl ?_
        refine v_iret F (pc := 65) (z := (iI (gp (cEm τ 6 k) s))) dX0_widestGap_65 rfl rfl (Nat.le_of_ble_eq_true rfl) (Nat.le_of_ble_eq_true rfl) ?_
        exact ⟨congrArg (fun z => some (Value.int (iI z))) (by rw [show s = τ 41 (ad r 2 k) by omega]), rfl⟩
      · refine v_aload_n F (pc := 29) dX0_widestGap_29 rfl ?_
        refine v_getf F (pc := 30) fd_X0_9_3 (v := .ref (P 6)) dX0_widestGap_30 (ch_5 hk) rfl ?_
        refine v_iload_n F (pc := 33) dX0_widestGap_33 rfl ?_
        refine v_iload F (pc := 34) dX0_widestGap_34 rfl ?_
        refine v_callNp F (pc := 36) (As := [.int (iI (k)), .int (iI (s))]) (rest := [.ref (P 6)]) cn_X0_150 ct_X4_cellAt (k_X4_cellAt l g k s) dX0_widestGap_36 rfl rfl (Nat.le_of_ble_eq_true rfl) (Nat.le_of_ble_eq_true rfl) (Nat.le_of_ble_eq_true rfl) (Nat.le_of_ble_eq_true rfl) (Nat.le_of_ble_eq_true rfl) ?_
        refine v_iald F (pc := 39) (n := 160) (f := τ 6) (z := k * 20 + s) dX0_widestGap_39 (ch_6 hk) (by omega) (by decide) ?_
        have bd_3 := hW1 (k * 20 + s) (by omega) (by omega)
        refine v_iconst F (pc := 40) dX0_widestGap_40 ?_
        refine v_icmp_ne F (pc := 41) (a := (τ 6) (k * 20 + s)) (b := -1) 50 dX0_widestGap_41 (by decide) (by omega) (by omega) (fun c_4 => ?_) (fun c_4 => ?_)
        · have hE : cEm τ 6 k s = false := decide_eq_false c_4
          refine v_iconst F (pc := 50) dX0_widestGap_50 ?_
          refine v_istore_n F (pc := 51) (lo' := [some (.ref (P 5)), some (.int (iI (k))), some (.int (iI (gp (cEm τ 6 k) s))), some (.int (iI (0))), some (.int (iI (s)))]) dX0_widestGap_51 (Nat.le_of_ble_eq_true rfl) rfl ?_
          refine v_iload_n F (pc := 52) dX0_widestGap_52 rfl ?_
          refine v_iload_n F (pc := 53) dX0_widestGap_53 rfl ?_
          refine v_mmax F (pc := 54) (a := gp (cEm τ 6 k) s) (b := 0) (rest := []) ci_X0_153 ct_J9_max_7cf53 dX0_widestGap_54 (by omega) (by omega) (Nat.le_of_ble_eq_true rfl) (Nat.le_of_ble_eq_true rfl) (Nat.le_of_ble_eq_true rfl) (Nat.le_of_ble_eq_true rfl) (Nat.le_of_ble_eq_true rfl) ?_
          refine v_istore_n F (pc := 57) (lo' := [some (.ref (P 5)), some (.int (iI (k))), some (.int (iI (max (gp (cEm τ 6 k) s) 0))), some (.int (iI (0))), some (.int (iI (s)))]) dX0_widestGap_57 (Nat.le_of_ble_eq_true rfl) rfl ?_
          refine v_iinc F (pc := 58) (lo' := [some (.ref (P 5)), some (.int (iI (k))), some (.int (iI (max (gp (cEm τ 6 k) s) 0))), some (.int (iI (0))), some (.int (iI (s + 1)))]) dX0_widestGap_58 rfl (Nat.le_of_ble_eq_true rfl) rfl ?_
          refine v_goto F (pc := 61) 7 dX0_widestGap_61 (by decide) ?_
          have e_0 : gp (cEm τ 6 k) (s + 1) = max (gp (cEm τ 6 k) s) 0 := by rw [gp_s _ hs0, fr_s _ hs0, hE]; rfl
          have e_1 : fr (cEm τ 6 k) (s + 1) = 0 := by rw [fr_s _ hs0, hE]; rfl
          have ih2 := ih (s + 1) (by omega) (by omega)  (by omega)
          rw [e_0, e_1] at ih2
          exact ih2
        · have hE : cEm τ 6 k s = true := decide_eq_true c_4
          refine v_iload_n F (pc := 44) dX0_widestGap_44 rfl ?_
          refine v_iconst F (pc := 45) dX0_widestGap_45 ?_
          refine v_iadd F (pc := 46) (a := fr (cEm τ 6 k) s) (b := 1) dX0_widestGap_46 ?_
          refine v_goto F (pc := 47) 51 dX0_widestGap_47 (by decide) ?_
          refine v_istore_n F (pc := 51) (lo' := [some (.ref (P 5)), some (.int (iI (k))), some (.int (iI (gp (cEm τ 6 k) s))), some (.int (iI ((fr (cEm τ 6 k) s) + 1))), some (.int (iI (s)))]) dX0_widestGap_51 (Nat.le_of_ble_eq_true rfl) rfl ?_
          refine v_iload_n F (pc := 52) dX0_widestGap_52 rfl ?_
          refine v_iload_n F (pc := 53) dX0_widestGap_53 rfl ?_
          refine v_mmax F (pc := 54) (a := gp (cEm τ 6 k) s) (b := (fr (cEm τ 6 k) s) + 1) (rest := []) ci_X0_153 ct_J9_max_7cf53 dX0_widestGap_54 (by omega) (by omega) (Nat.le_of_ble_eq_true rfl) (Nat.le_of_ble_eq_true rfl) (Nat.le_of_ble_eq_true rfl) (Nat.le_of_ble_eq_true rfl) (Nat.le_of_ble_eq_true rfl) ?_
          refine v_istore_n F (pc := 57) (lo' := [some (.ref (P 5)), some (.int (iI (k))), some (.int (iI (max (gp (cEm τ 6 k) s) ((fr (cEm τ 6 k) s) + 1)))), some (.int (iI ((fr (cEm τ 6 k) s) + 1))), some (.int (iI (s)))]) dX0_widestGap_57 (Nat.le_of_ble_eq_true rfl) rfl ?_
          refine v_iinc F (pc := 58) (lo' := [some (.ref (P 5)), some (.int (iI (k))), some (.int (iI (max (gp (cEm τ 6 k) s) ((fr (cEm τ 6 k) s) + 1)))), some (.int (iI ((fr (cEm τ 6 k) s) + 1))), some (.int (iI (s + 1)))]) dX0_widestGap_58 rfl (Nat.le_of_ble_eq_true rfl) rfl ?_
          refine v_goto F (pc := 61) 7 dX0_widestGap_61 (by decide) ?_
          have e_0 : gp (cEm τ 6 k) (s + 1) = max (gp (cEm τ 6 k) s) ((fr (cEm τ 6 k) s) + 1) := by rw [gp_s _ hs0, fr_s _ hs0, hE]; rfl
          have e_1 : fr (cEm τ 6 k) (s + 1) = (fr (cEm τ 6 k) s) + 1 := by rw [fr_s _ hs0, hE]; rfl
          have ih2 := ih (s + 1) (by omega) (by omega)  (by omega)
          rw [e_0, e_1] at ih2
          exact ih2
  exact LP7 _ 0 (Int.le_refl _) (by omega)  (Nat.lt_succ_self _)
-- X0_widestGap
set_option maxRecDepth 100000 in
set_option maxHeartbeats 8000000 in
theorem k_X0_widestGap_12 (l : Launch) (g : gT) {P K : Nat → Nat} {r : Nat → Int → Option Nat} {cp : Nat → Nat} {b b' : Nat} {τ : sT} (hk : cok P K cp) (hV : CV K r cp τ) (hW : Wb τ 12) (k : Int) (hk2 : 0 ≤ k ∧ k < τ 55 0) : CM l g yX0_widestGap cX0_widestGap 5 (some .int) ({ frames := 4, cells := 0, slots := 0, locals := 84 }) [.ref (P 12), .int (iI (k))] (cheap g P K r cp b b' τ) (pV (some (.int (iI (gp (cEm τ (12 + 1) k) (τ 41 (ad r 2 k)))))) (cheap g P K r cp b b' τ)) (noX) := by
  refine CM.of (lo := [some (.ref (P 12)), some (.int (iI (k))), none, none, none]) (by decide) (Nat.le_of_ble_eq_true rfl) (by simp [Value.category]) rfl ?_
  intro pX eX sX mX bX tX cX AX F htab hmn
  have F : Fx pX l sX mX ([.ref (P 12), .int (iI (k))] : List Value).toArray tX cX cX0_widestGap 5 (some .int) RX0 g AX := F
  have hM := hV.1
  have hR := hV.2.1
  have hL0 := hV.2.2.1
  have hL1 := hV.2.2.2.1
  have hL2 := hV.2.2.2.2.1
  have hS20 := hV.2.2.2.2.2.1
  have hS21 := hV.2.2.2.2.2.2.1
  have hS22 := hV.2.2.2.2.2.2.2.1
  have hS2 := hV.2.2.2.2.2.2.2.2.1
  have hn8 : 0 ≤ τ 55 0 ∧ τ 55 0 ≤ 8 := ⟨hL2.1, hL2.2.2.2.1⟩
  have hn60 : 0 ≤ τ 53 0 ∧ τ 53 0 ≤ 60 := ⟨hL0.1, hL0.2.2.2.1⟩
  have hW1 : ∀ z : Int, 0 ≤ z → z < 160 → -1 ≤ τ 13 z ∧ τ 13 z ≤ 1000000 := hW.1
  have hW2 : ∀ z : Int, 0 ≤ z → z < 8 → -1000000 ≤ τ 14 z ∧ τ 14 z ≤ 1000000 := hW.2.1
  have hW3 : ∀ z : Int, 0 ≤ z → z < 8 → -1000000 ≤ τ 15 z ∧ τ 15 z ≤ 1000000 := hW.2.2.1
  have hW5 : ∀ z : Int, 0 ≤ z → z < 8 → -1000000 ≤ τ 17 z ∧ τ 17 z ≤ 1000000 := hW.2.2.2.1
  have hW6 : ∀ z : Int, 0 ≤ z → z < 8 → -1000000 ≤ τ 18 z ∧ τ 18 z ≤ 1000000 := hW.2.2.2.2
  have hr9 := hR _ (hL2.2.2.2.2 k hk2.1 hk2.2).2
  refine v_iconst F (pc := 0) dX0_widestGap_0 ?_
  refine v_istore_n F (pc := 1) (lo' := [some (.ref (P 12)), some (.int (iI (k))), some (.int (iI (0))), none, none]) dX0_widestGap_1 (Nat.le_of_ble_eq_true rfl) rfl ?_
  refine v_iconst F (pc := 2) dX0_widestGap_2 ?_
  refine v_istore_n F (pc := 3) (lo' := [some (.ref (P 12)), some (.int (iI (k))), some (.int (iI (0))), some (.int (iI (0))), none]) dX0_widestGap_3 (Nat.le_of_ble_eq_true rfl) rfl ?_
  refine v_iconst F (pc := 4) dX0_widestGap_4 ?_
  refine v_istore F (pc := 5) (lo' := [some (.ref (P 12)), some (.int (iI (k))), some (.int (iI (0))), some (.int (iI (0))), some (.int (iI (0)))]) dX0_widestGap_5 (Nat.le_of_ble_eq_true rfl) rfl ?_
  have LP7 : ∀ (N_ : Nat) (s : Int), (0 ≤ s) → (s ≤ (τ 41 (ad r 2 k))) → ((τ 41 (ad r 2 k)) - s).toNat < N_ → VE pX l eX ({ frames := 4, cells := 0, slots := 0, locals := 84 }) sX mX ([.ref (P 12), .int (iI (k))] : List Value).toArray bX tX cX 5 g AX (cheap g P K r cp b b' τ) 0 0 7 [some (.ref (P 12)), some (.int (iI (k))), some (.int (iI (gp (cEm τ 13 k) s))), some (.int (iI (fr (cEm τ 13 k) s))), some (.int (iI (s)))] [] (pV (some (.int (iI (gp (cEm τ (12 + 1) k) (τ 41 (ad r 2 k)))))) (cheap g P K r cp b b' τ)) (noX) 0 0 := by
    intro N_
    induction N_ with
    | zero => intro s _ _ hm_; exact absurd hm_ (Nat.not_lt_zero _)
    | succ N_ ih =>
      intro s hs0 hs1 hm_
      have hfr := fr_rng (cEm τ 13 k) hs0
      have hgp := gp_rng (cEm τ 13 k) hs0
      refine v_iload F (pc := 7) dX0_widestGap_7 rfl ?_
      refine v_aload_n F (pc := 9) dX0_widestGap_9 rfl ?_
      refine v_getf F (pc := 10) fd_X0_26_3 (v := .ref (P 1)) dX0_widestGap_10 (ch_12 hk) rfl ?_
      refine v_getf F (pc := 13) fd_X0_85_6 (v := .ref (P 19)) dX0_widestGap_13 (ch_1 hk) rfl ?_
      refine v_iload_n F (pc := 16) dX0_widestGap_16 rfl ?_
      refine v_callVp F (pc := 17) (As := [.int (iI (k))]) (rest := [.int (iI (s))]) ci_X0_97 ct_Jx4a65c_get_915e3 cs_Jx4a65c_get_915e3 (kl_get2 l g (τ := τ) (r := r) (cp := cp) hk hL2 (k := k) (by omega) (show (k : Int) < τ 55 0 by omega)) dX0_widestGap_17 (k0 := 2) rfl rfl (ch_19 hk) rfl rfl (Nat.le_of_ble_eq_true rfl) (Nat.le_of_ble_eq_true rfl) (Nat.le_of_ble_eq_true rfl) (Nat.le_of_ble_eq_true rfl) (Nat.le_of_ble_eq_true rfl) ?_ (fun _ _ z => z.elim)
      have kq_1 : K (ad r 2 k) = 2 := (hL2.2.2.2.2 k (by omega) (show (k : Int) < τ 55 0 by omega)).2
      have kq_1b := hR _ kq_1
      refine v_castS F (pc := 20) (ci := 5) rfl tk_X0_101 dX0_widestGap_20 (ch_r hk kq_1) ?_
      refine v_getf F (pc := 23) fd_X0_149_5 (v := .int (iI (τ 41 (ad r 2 k)))) dX0_widestGap_23 (ch_r hk kq_1) rfl ?_
      refine v_icmp_ge F (pc := 26) (a := s) (b := τ 41 (ad r 2 k)) 64 dX0_widestGap_26 (by decide) (by omega) (by omega) (fun c_2 => ?_) (fun c_2 => ?_)
      · refine v_iload_n F (pc := 64) dX0_widestGap_64 rfl ?_
        refine v_iret F (pc := 65) (z := (iI (gp (cEm τ 13 k) s))) dX0_widestGap_65 rfl rfl (Nat.le_of_ble_eq_true rfl) (Nat.le_of_ble_eq_true rfl) ?_
        exact ⟨congrArg (fun z => some (Value.int (iI z))) (by rw [show s = τ 41 (ad r 2 k) by omega]), rfl⟩
      · refine v_aload_n F (pc := 29) dX0_widestGap_29 rfl ?_
        refine v_getf F (pc := 30) fd_X0_9_3 (v := .ref (P 13)) dX0_widestGap_30 (ch_12 hk) rfl ?_
        refine v_iload_n F (pc := 33) dX0_widestGap_33 rfl ?_
        refine v_iload F (pc := 34) dX0_widestGap_34 rfl ?_
        refine v_callNp F (pc := 36) (As := [.int (iI (k)), .int (iI (s))]) (rest := [.ref (P 13)]) cn_X0_150 ct_X4_cellAt (k_X4_cellAt l g k s) dX0_widestGap_36 rfl rfl (Nat.le_of_ble_eq_true rfl) (Nat.le_of_ble_eq_true rfl) (Nat.le_of_ble_eq_true rfl) (Nat.le_of_ble_eq_true rfl) (Nat.le_of_ble_eq_true rfl) ?_
        refine v_iald F (pc := 39) (n := 160) (f := τ 13) (z := k * 20 + s) dX0_widestGap_39 (ch_13 hk) (by omega) (by decide) ?_
        have bd_3 := hW1 (k * 20 + s) (by omega) (by omega)
        refine v_iconst F (pc := 40) dX0_widestGap_40 ?_
        refine v_icmp_ne F (pc := 41) (a := (τ 13) (k * 20 + s)) (b := -1) 50 dX0_widestGap_41 (by decide) (by omega) (by omega) (fun c_4 => ?_) (fun c_4 => ?_)
        · have hE : cEm τ 13 k s = false := decide_eq_false c_4
          refine v_iconst F (pc := 50) dX0_widestGap_50 ?_
          refine v_istore_n F (pc := 51) (lo' := [some (.ref (P 12)), some (.int (iI (k))), some (.int (iI (gp (cEm τ 13 k) s))), some (.int (iI (0))), some (.int (iI (s)))]) dX0_widestGap_51 (Nat.le_of_ble_eq_true rfl) rfl ?_
          refine v_iload_n F (pc := 52) dX0_widestGap_52 rfl ?_
          refine v_iload_n F (pc := 53) dX0_widestGap_53 rfl ?_
          refine v_mmax F (pc := 54) (a := gp (cEm τ 13 k) s) (b := 0) (rest := []) ci_X0_153 ct_J9_max_7cf53 dX0_widestGap_54 (by omega) (by omega) (Nat.le_of_ble_eq_true rfl) (Nat.le_of_ble_eq_true rfl) (Nat.le_of_ble_eq_true rfl) (Nat.le_of_ble_eq_true rfl) (Nat.le_of_ble_eq_true rfl) ?_
          refine v_istore_n F (pc := 57) (lo' := [some (.ref (P 12)), some (.int (iI (k))), some (.int (iI (max (gp (cEm τ 13 k) s) 0))), some (.int (iI (0))), some (.int (iI (s)))]) dX0_widestGap_57 (Nat.le_of_ble_eq_true rfl) rfl ?_
          refine v_iinc F (pc := 58) (lo' := [some (.ref (P 12)), some (.int (iI (k))), some (.int (iI (max (gp (cEm τ 13 k) s) 0))), some (.int (iI (0))), some (.int (iI (s + 1)))]) dX0_widestGap_58 rfl (Nat.le_of_ble_eq_true rfl) rfl ?_
          refine v_goto F (pc := 61) 7 dX0_widestGap_61 (by decide) ?_
          have e_0 : gp (cEm τ 13 k) (s + 1) = max (gp (cEm τ 13 k) s) 0 := by rw [gp_s _ hs0, fr_s _ hs0, hE]; rfl
          have e_1 : fr (cEm τ 13 k) (s + 1) = 0 := by rw [fr_s _ hs0, hE]; rfl
          have ih2 := ih (s + 1) (by omega) (by omega)  (by omega)
          rw [e_0, e_1] at ih2
          exact ih2
        · have hE : cEm τ 13 k s = true := decide_eq_true c_4
          refine v_iload_n F (pc := 44) dX0_widestGap_44 rfl ?_
          refine v_iconst F (pc := 45) dX0_widestGap_45 ?_
          refine v_iadd F (pc := 46) (a := fr (cEm τ 13 k) s) (b := 1) dX0_widestGap_46 ?_
          refine v_goto F (pc := 47) 51 dX0_widestGap_47 (by decide) ?_
          refine v_istore_n F (pc := 51) (lo' := [some (.ref (P 12)), some (.int (iI (k))), some (.int (iI (gp (cEm τ 13 k) s))), some (.int (iI ((fr (cEm τ 13 k) s) + 1))), some (.int (iI (s)))]) dX0_widestGap_51 (Nat.le_of_ble_eq_true rfl) rfl ?_
          refine v_iload_n F (pc := 52) dX0_widestGap_52 rfl ?_
          refine v_iload_n F (pc := 53) dX0_widestGap_53 rfl ?_
          refine v_mmax F (pc := 54) (a := gp (cEm τ 13 k) s) (b := (fr (cEm τ 13 k) s) + 1) (rest := []) ci_X0_153 ct_J9_max_7cf53 dX0_widestGap_54 (by omega) (by omega) (Nat.le_of_ble_eq_true rfl) (Nat.le_of_ble_eq_true rfl) (Nat.le_of_ble_eq_true rfl) (Nat.le_of_ble_eq_true rfl) (Nat.le_of_ble_eq_true rfl) ?_
          refine v_istore_n F (pc := 57) (lo' := [some (.ref (P 12)), some (.int (iI (k))), some (.int (iI (max (gp (cEm τ 13 k) s) ((fr (cEm τ 13 k) s) + 1)))), some (.int (iI ((fr (cEm τ 13 k) s) + 1))), some (.int (iI (s)))]) dX0_widestGap_57 (Nat.le_of_ble_eq_true rfl) rfl ?_
          refine v_iinc F (pc := 58) (lo' := [some (.ref (P 12)), some (.int (iI (k))), some (.int (iI (max (gp (cEm τ 13 k) s) ((fr (cEm τ 13 k) s) + 1)))), some (.int (iI ((fr (cEm τ 13 k) s) + 1))), some (.int (iI (s + 1)))]) dX0_widestGap_58 rfl (Nat.le_of_ble_eq_true rfl) rfl ?_
          refine v_goto F (pc := 61) 7 dX0_widestGap_61 (by decide) ?_
          have e_0 : gp (cEm τ 13 k) (s + 1) = max (gp (cEm τ 13 k) s) ((fr (cEm τ 13 k) s) + 1) := by rw [gp_s _ hs0, fr_s _ hs0, hE]; rfl
          have e_1 : fr (cEm τ 13 k) (s + 1) = (fr (cEm τ 13 k) s) + 1 := by rw [fr_s _ hs0, hE]; rfl
          have ih2 := ih (s + 1) (by omega) (by omega)  (by omega)
          rw [e_0, e_1] at ih2
          exact ih2
  exact LP7 _ 0 (Int.le_refl _) (by omega)  (Nat.lt_succ_self _)
theorem k_X0_widestGap (l : Launch) (g : gT) {w : Nat} (hw : w = 5 ∨ w = 12) {P K : Nat → Nat} {r : Nat → Int → Option Nat} {cp : Nat → Nat} {b b' : Nat} {τ : sT} (hk : cok P K cp) (hV : CV K r cp τ) (hW : Wb τ w) (k : Int) (hk2 : 0 ≤ k ∧ k < τ 55 0) : CM l g yX0_widestGap cX0_widestGap 5 (some .int) { frames := 4, cells := 0, slots := 0, locals := 84 } [.ref (P w), .int (iI (k))] (cheap g P K r cp b b' τ) (pV (some (.int (iI (gp (cEm τ (w + 1) k) (τ 41 (ad r 2 k)))))) (cheap g P K r cp b b' τ)) (noX) := by
  rcases hw with rfl | rfl
  · exact k_X0_widestGap_5 l g hk hV hW k hk2
  · exact k_X0_widestGap_12 l g hk hV hW k hk2
-- X0_countBySlots
set_option maxRecDepth 100000 in
set_option maxHeartbeats 8000000 in
theorem k_X0_countBySlots_5 (l : Launch) (g : gT) {P K : Nat → Nat} {r : Nat → Int → Option Nat} {cp : Nat → Nat} {b b' : Nat} {τ : sT} (hk : cok P K cp) (hV : CV K r cp τ) (hW : Wb τ 5) (k : Int) (hk2 : 0 ≤ k ∧ k < τ 55 0) (n : Int) (hn : 1 ≤ n ∧ n ≤ 20) : CM l g yX0_countBySlots cX0_countBySlots 6 (some .int) ({ frames := 4, cells := 0, slots := 0, locals := 84 }) [.ref (P 5), .int (iI (k)), .int (iI (n))] (cheap g P K r cp b b' τ) (pV (some (.int (iI (rn (cEm τ (5 + 1) k) n (τ 41 (ad r 2 k))).1))) (cheap g P K r cp b b' τ)) (noX) := by
  refine CM.of (lo := [some (.ref (P 5)), some (.int (iI (k))), some (.int (iI (n))), none, none, none]) (by decide) (Nat.le_of_ble_eq_true rfl) (by simp [Value.category]) rfl ?_
  intro pX eX sX mX bX tX cX AX F htab hmn
  have F : Fx pX l sX mX ([.ref (P 5), .int (iI (k)), .int (iI (n))] : List Value).toArray tX cX cX0_countBySlots 6 (some .int) RX0 g AX := F
  have hM := hV.1
  have hR := hV.2.1
  have hL0 := hV.2.2.1
  have hL1 := hV.2.2.2.1
  have hL2 := hV.2.2.2.2.1
  have hS20 := hV.2.2.2.2.2.1
  have hS21 := hV.2.2.2.2.2.2.1
  have hS22 := hV.2.2.2.2.2.2.2.1
  have hS2 := hV.2.2.2.2.2.2.2.2.1
  have hn8 : 0 ≤ τ 55 0 ∧ τ 55 0 ≤ 8 := ⟨hL2.1, hL2.2.2.2.1⟩
  have hn60 : 0 ≤ τ 53 0 ∧ τ 53 0 ≤ 60 := ⟨hL0.1, hL0.2.2.2.1⟩
  have hW1 : ∀ z : Int, 0 ≤ z → z < 160 → -1 ≤ τ 6 z ∧ τ 6 z ≤ 1000000 := hW.1
  have hW2 : ∀ z : Int, 0 ≤ z → z < 8 → -1000000 ≤ τ 7 z ∧ τ 7 z ≤ 1000000 := hW.2.1
  have hW3 : ∀ z : Int, 0 ≤ z → z < 8 → -1000000 ≤ τ 8 z ∧ τ 8 z ≤ 1000000 := hW.2.2.1
  have hW5 : ∀ z : Int, 0 ≤ z → z < 8 → -1000000 ≤ τ 10 z ∧ τ 10 z ≤ 1000000 := hW.2.2.2.1
  have hW6 : ∀ z : Int, 0 ≤ z → z < 8 → -1000000 ≤ τ 11 z ∧ τ 11 z ≤ 1000000 := hW.2.2.2.2
  have hr9 := hR _ (hL2.2.2.2.2 k hk2.1 hk2.2).2
  refine v_iconst F (pc := 0) dX0_countBySlots_0 ?_
  refine v_istore_n F (pc := 1) (lo' := [some (.ref (P 5)), some (.int (iI (k))), some (.int (iI (n))), some (.int (iI (0))), none, none]) dX0_countBySlots_1 (Nat.le_of_ble_eq_true rfl) rfl ?_
  refine v_iconst F (pc := 2) dX0_countBySlots_2 ?_
  refine v_istore F (pc := 3) (lo' := [some (.ref (P 5)), some (.int (iI (k))), some (.int (iI (n))), some (.int (iI (0))), some (.int (iI (0))), none]) dX0_countBySlots_3 (Nat.le_of_ble_eq_true rfl) rfl ?_
  refine v_iconst F (pc := 5) dX0_countBySlots_5 ?_
  refine v_istore F (pc := 6) (lo' := [some (.ref (P 5)), some (.int (iI (k))), some (.int (iI (n))), some (.int (iI (0))), some (.int (iI (0))), some (.int (iI (0)))]) dX0_countBySlots_6 (Nat.le_of_ble_eq_true rfl) rfl ?_
  have LP8 : ∀ (N_ : Nat) (s : Int), (0 ≤ s) → (s ≤ (τ 41 (ad r 2 k))) → ((τ 41 (ad r 2 k)) - s).toNat < N_ → VE pX l eX ({ frames := 4, cells := 0, slots := 0, locals := 84 }) sX mX ([.ref (P 5), .int (iI (k)), .int (iI (n))] : List Value).toArray bX tX cX 6 g AX (cheap g P K r cp b b' τ) 0 0 8 [some (.ref (P 5)), some (.int (iI (k))), some (.int (iI (n))), some (.int (iI ((rn (cEm τ 6 k) n s).1))), some (.int (iI ((rn (cEm τ 6 k) n s).2))), some (.int (iI (s)))] [] (pV (some (.int (iI (rn (cEm τ (5 + 1) k) n (τ 41 (ad r 2 k))).1))) (cheap g P K r cp b b' τ)) (noX) 0 0 := by
    intro N_
    induction N_ with
    | zero => intro s _ _ hm_; exact absurd hm_ (Nat.not_lt_zero _)
    | succ N_ ih =>
      intro s hs0 hs1 hm_
      have hrn := rn_rng (cEm τ 6 k) n hs0
      refine v_iload F (pc := 8) dX0_countBySlots_8 rfl ?_
      refine v_aload_n F (pc := 10) dX0_countBySlots_10 rfl ?_
      refine v_getf F (pc := 11) fd_X0_26_3 (v := .ref (P 1)) dX0_countBySlots_11 (ch_5 hk) rfl ?_
      refine v_getf F (pc := 14) fd_X0_85_6 (v := .ref (P 19)) dX0_countBySlots_14 (ch_1 hk) rfl ?_
      refine v_iload_n F (pc := 17) dX0_countBySlots_17 rfl ?_
      refine v_callVp F (pc := 18) (As := [.int (iI (k))]) (rest := [.int (iI (s))]) ci_X0_97 ct_Jx4a65c_get_915e3 cs_Jx4a65c_get_915e3 (kl_get2 l g (τ := τ) (r := r) (cp := cp) hk hL2 (k := k) (by omega) (show (k : Int) < τ 55 0 by omega)) dX0_countBySlots_18 (k0 := 2) rfl rfl (ch_19 hk) rfl rfl (Nat.le_of_ble_eq_true rfl) (Nat.le_of_ble_eq_true rfl) (Nat.le_of_ble_eq_true rfl) (Nat.le_of_ble_eq_true rfl) (Nat.le_of_ble_eq_true rfl) ?_ (fun _ _ z => z.elim)
      have kq_1 : K (ad r 2 k) = 2 := (hL2.2.2.2.2 k (by omega) (show (k : Int) < τ 55 0 by omega)).2
      have kq_1b := hR _ kq_1
      refine v_castS F (pc := 21) (ci := 5) rfl tk_X0_101 dX0_countBySlots_21 (ch_r hk kq_1) ?_
      refine v_getf F (pc := 24) fd_X0_149_5 (v := .int (iI (τ 41 (ad r 2 k)))) dX0_countBySlots_24 (ch_r hk kq_1) rfl ?_
      refine v_icmp_ge F (pc := 27) (a := s) (b := τ 41 (ad r 2 k)) 73 dX0_countBySlots_27 (by decide) (by omega) (by omega) (fun c_2 => ?_) (fun c_2 => ?_)
      · refine v_iload_n F (pc := 73) dX0_countBySlots_73 rfl ?_
        refine v_iret F (pc := 74) (z := (iI ((rn (cEm τ 6 k) n s).1))) dX0_countBySlots_74 rfl rfl (Nat.le_of_ble_eq_true rfl) (Nat.le_of_ble_eq_true rfl) ?_
        exact ⟨congrArg (fun z => some (Value.int (iI z))) (by rw [show s = τ 41 (ad r 2 k) by omega]), rfl⟩
      · refine v_aload_n F (pc := 30) dX0_countBySlots_30 rfl ?_
        refine v_getf F (pc := 31) fd_X0_9_3 (v := .ref (P 6)) dX0_countBySlots_31 (ch_5 hk) rfl ?_
        refine v_iload_n F (pc := 34) dX0_countBySlots_34 rfl ?_
        refine v_iload F (pc := 35) dX0_countBySlots_35 rfl ?_
        refine v_callNp F (pc := 37) (As := [.int (iI (k)), .int (iI (s))]) (rest := [.ref (P 6)]) cn_X0_150 ct_X4_cellAt (k_X4_cellAt l g k s) dX0_countBySlots_37 rfl rfl (Nat.le_of_ble_eq_true rfl) (Nat.le_of_ble_eq_true rfl) (Nat.le_of_ble_eq_true rfl) (Nat.le_of_ble_eq_true rfl) (Nat.le_of_ble_eq_true rfl) ?_
        refine v_iald F (pc := 40) (n := 160) (f := τ 6) (z := k * 20 + s) dX0_countBySlots_40 (ch_6 hk) (by omega) (by decide) ?_
        have bd_3 := hW1 (k * 20 + s) (by omega) (by omega)
        refine v_iconst F (pc := 41) dX0_countBySlots_41 ?_
        refine v_icmp_ne F (pc := 42) (a := (τ 6) (k * 20 + s)) (b := -1) 52 dX0_countBySlots_42 (by decide) (by omega) (by omega) (fun c_4 => ?_) (fun c_4 => ?_)
        · have hE : cEm τ 6 k s = false := decide_eq_false c_4
          refine v_iconst F (pc := 52) dX0_countBySlots_52 ?_
          refine v_istore F (pc := 53) (lo' := [some (.ref (P 5)), some (.int (iI (k))), some (.int (iI (n))), some (.int (iI ((rn (cEm τ 6 k) n s).1))), some (.int (iI (0))), some (.int (iI (s)))]) dX0_countBySlots_53 (Nat.le_of_ble_eq_true rfl) rfl ?_
          refine v_iload F (pc := 55) dX0_countBySlots_55 rfl ?_
          refine v_iload_n F (pc := 57) dX0_countBySlots_57 rfl ?_
          refine v_icmp_ne F (pc := 58) (a := 0) (b := n) 67 dX0_countBySlots_58 (by decide) (by omega) (by omega) (fun c_5 => ?_) (fun c_5 => ?_)
          · have hq9 := c_5
            refine v_iinc F (pc := 67) (lo' := [some (.ref (P 5)), some (.int (iI (k))), some (.int (iI (n))), some (.int (iI ((rn (cEm τ 6 k) n s).1))), some (.int (iI (0))), some (.int (iI (s + 1)))]) dX0_countBySlots_67 rfl (Nat.le_of_ble_eq_true rfl) rfl ?_
            refine v_goto F (pc := 70) 8 dX0_countBySlots_70 (by decide) ?_
            have e_0 : (rn (cEm τ 6 k) n (s + 1)).1 = (rn (cEm τ 6 k) n s).1 := by rw [rn_s _ n hs0, hE]; exact (congrArg Prod.fst (if_neg hq9)).trans rfl
            have e_1 : (rn (cEm τ 6 k) n (s + 1)).2 = 0 := by rw [rn_s _ n hs0, hE]; exact (congrArg Prod.snd (if_neg hq9)).trans rfl
            have ih2 := ih (s + 1) (by omega) (by omega)  (by omega)
            rw [e_0, e_1] at ih2
            exact ih2
          · have hq9 := c_5
            refine v_iinc F (pc := 61) (lo' := [some (.ref (P 5)), some (.int (iI (k))), some (.int (iI (n))), some (.int (iI ((rn (cEm τ 6 k) n s).1 + 1))), some (.int (iI (0))), some (.int (iI (s)))]) dX0_countBySlots_61 rfl (Nat.le_of_ble_eq_true rfl) rfl ?_
            refine v_iconst F (pc := 64) dX0_countBySlots_64 ?_
            refine v_istore F (pc := 65) (lo' := [some (.ref (P 5)), some (.int (iI (k))), some (.int (iI (n))), some (.int (iI ((rn (cEm τ 6 k) n s).1 + 1))), some (.int (iI (0))), some (.int (iI (s)))]) dX0_countBySlots_65 (Nat.le_of_ble_eq_true rfl) rfl ?_
            refine v_iinc F (pc := 67) (lo' := [some (.ref (P 5)), some (.int (iI (k))), some (.int (iI (n))), some (.int (iI ((rn (cEm τ 6 k) n s).1 + 1))), some (.int (iI (0))), some (.int (iI (s + 1)))]) dX0_countBySlots_67 rfl (Nat.le_of_ble_eq_true rfl) rfl ?_
            refine v_goto F (pc := 70) 8 dX0_countBySlots_70 (by decide) ?_
            have e_0 : (rn (cEm τ 6 k) n (s + 1)).1 = (rn (cEm τ 6 k) n s).1 + 1 := by rw [rn_s _ n hs0, hE]; exact (congrArg Prod.fst (if_pos hq9)).trans rfl
            have e_1 : (rn (cEm τ 6 k) n (s + 1)).2 = 0 := by rw [rn_s _ n hs0, hE]; exact (congrArg Prod.snd (if_pos hq9)).trans rfl
            have ih2 := ih (s + 1) (by omega) (by omega)  (by omega)
            rw [e_0, e_1] at ih2
            exact ih2
        · have hE : cEm τ 6 k s = true := decide_eq_true c_4
          refine v_iload F (pc := 45) dX0_countBySlots_45 rfl ?_
          refine v_iconst F (pc := 47) dX0_countBySlots_47 ?_
          refine v_iadd F (pc := 48) (a := (rn (cEm τ 6 k) n s).2) (b := 1) dX0_countBySlots_48 ?_
          refine v_goto F (pc := 49) 53 dX0_countBySlots_49 (by decide) ?_
          refine v_istore F (pc := 53) (lo' := [some (.ref (P 5)), some (.int (iI (k))), some (.int (iI (n))), some (.int (iI ((rn (cEm τ 6 k) n s).1))), some (.int (iI (((rn (cEm τ 6 k) n s).2) + 1))), some (.int (iI (s)))]) dX0_countBySlots_53 (Nat.le_of_ble_eq_true rfl) rfl ?_
          refine v_iload F (pc := 55) dX0_countBySlots_55 rfl ?_
          refine v_iload_n F (pc := 57) dX0_countBySlots_57 rfl ?_
          refine v_icmp_ne F (pc := 58) (a := ((rn (cEm τ 6 k) n s).2) + 1) (b := n) 67 dX0_countBySlots_58 (by decide) (by omega) (by omega) (fun c_6 => ?_) (fun c_6 => ?_)
          · have hq9 := c_6
            refine v_iinc F (pc := 67) (lo' := [some (.ref (P 5)), some (.int (iI (k))), some (.int (iI (n))), some (.int (iI ((rn (cEm τ 6 k) n s).1))), some (.int (iI (((rn (cEm τ 6 k) n s).2) + 1))), some (.int (iI (s + 1)))]) dX0_countBySlots_67 rfl (Nat.le_of_ble_eq_true rfl) rfl ?_
            refine v_goto F (pc := 70) 8 dX0_countBySlots_70 (by decide) ?_
            have e_0 : (rn (cEm τ 6 k) n (s + 1)).1 = (rn (cEm τ 6 k) n s).1 := by rw [rn_s _ n hs0, hE]; exact (congrArg Prod.fst (if_neg hq9)).trans rfl
            have e_1 : (rn (cEm τ 6 k) n (s + 1)).2 = ((rn (cEm τ 6 k) n s).2) + 1 := by rw [rn_s _ n hs0, hE]; exact (congrArg Prod.snd (if_neg hq9)).trans rfl
            have ih2 := ih (s + 1) (by omega) (by omega)  (by omega)
            rw [e_0, e_1] at ih2
            exact ih2
          · have hq9 := c_6
            refine v_iinc F (pc := 61) (lo' := [some (.ref (P 5)), some (.int (iI (k))), some (.int (iI (n))), some (.int (iI ((rn (cEm τ 6 k) n s).1 + 1))), some (.int (iI (((rn (cEm τ 6 k) n s).2) + 1))), some (.int (iI (s)))]) dX0_countBySlots_61 rfl (Nat.le_of_ble_eq_true rfl) rfl ?_
            refine v_iconst F (pc := 64) dX0_countBySlots_64 ?_
            refine v_istore F (pc := 65) (lo' := [some (.ref (P 5)), some (.int (iI (k))), some (.int (iI (n))), some (.int (iI ((rn (cEm τ 6 k) n s).1 + 1))), some (.int (iI (0))), some (.int (iI (s)))]) dX0_countBySlots_65 (Nat.le_of_ble_eq_true rfl) rfl ?_
            refine v_iinc F (pc := 67) (lo' := [some (.ref (P 5)), some (.int (iI (k))), some (.int (iI (n))), some (.int (iI ((rn (cEm τ 6 k) n s).1 + 1))), some (.int (iI (0))), some (.int (iI (s + 1)))]) dX0_countBySlots_67 rfl (Nat.le_of_ble_eq_true rfl) rfl ?_
            refine v_goto F (pc := 70) 8 dX0_countBySlots_70 (by decide) ?_
            have e_0 : (rn (cEm τ 6 k) n (s + 1)).1 = (rn (cEm τ 6 k) n s).1 + 1 := by rw [rn_s _ n hs0, hE]; exact (congrArg Prod.fst (if_pos hq9)).trans rfl
            have e_1 : (rn (cEm τ 6 k) n (s + 1)).2 = 0 := by rw [rn_s _ n hs0, hE]; exact (congrArg Prod.snd (if_pos hq9)).trans rfl
            have ih2 := ih (s + 1) (by omega) (by omega)  (by omega)
            rw [e_0, e_1] at ih2
            exact ih2
  exact LP8 _ 0 (Int.le_refl _) (by omega)  (Nat.lt_succ_self _)
-- X0_countBySlots
set_option maxRecDepth 100000 in
set_option maxHeartbeats 8000000 in
theorem k_X0_countBySlots_12 (l : Launch) (g : gT) {P K : Nat → Nat} {r : Nat → Int → Option Nat} {cp : Nat → Nat} {b b' : Nat} {τ : sT} (hk : cok P K cp) (hV : CV K r cp τ) (hW : Wb τ 12) (k : Int) (hk2 : 0 ≤ k ∧ k < τ 55 0) (n : Int) (hn : 1 ≤ n ∧ n ≤ 20) : CM l g yX0_countBySlots cX0_countBySlots 6 (some .int) ({ frames := 4, cells := 0, slots := 0, locals := 84 }) [.ref (P 12), .int (iI (k)), .int (iI (n))] (cheap g P K r cp b b' τ) (pV (some (.int (iI (rn (cEm τ (12 + 1) k) n (τ 41 (ad r 2 k))).1))) (cheap g P K r cp b b' τ)) (noX) := by
  refine CM.of (lo := [some (.ref (P 12)), some (.int (iI (k))), some (.int (iI (n))), none, none, none]) (by decide) (Nat.le_of_ble_eq_true rfl) (by simp [Value.category]) rfl ?_
  intro pX eX sX mX bX tX cX AX F htab hmn
  have F : Fx pX l sX mX ([.ref (P 12), .int (iI (k)), .int (iI (n))] : List Value).toArray tX cX cX0_countBySlots 6 (some .int) RX0 g AX := F
  have hM := hV.1
  have hR := hV.2.1
  have hL0 := hV.2.2.1
  have hL1 := hV.2.2.2.1
  have hL2 := hV.2.2.2.2.1
  have hS20 := hV.2.2.2.2.2.1
  have hS21 := hV.2.2.2.2.2.2.1
  have hS22 := hV.2.2.2.2.2.2.2.1
  have hS2 := hV.2.2.2.2.2.2.2.2.1
  have hn8 : 0 ≤ τ 55 0 ∧ τ 55 0 ≤ 8 := ⟨hL2.1, hL2.2.2.2.1⟩
  have hn60 : 0 ≤ τ 53 0 ∧ τ 53 0 ≤ 60 := ⟨hL0.1, hL0.2.2.2.1⟩
  have hW1 : ∀ z : Int, 0 ≤ z → z < 160 → -1 ≤ τ 13 z ∧ τ 13 z ≤ 1000000 := hW.1
  have hW2 : ∀ z : Int, 0 ≤ z → z < 8 → -1000000 ≤ τ 14 z ∧ τ 14 z ≤ 1000000 := hW.2.1
  have hW3 : ∀ z : Int, 0 ≤ z → z < 8 → -1000000 ≤ τ 15 z ∧ τ 15 z ≤ 1000000 := hW.2.2.1
  have hW5 : ∀ z : Int, 0 ≤ z → z < 8 → -1000000 ≤ τ 17 z ∧ τ 17 z ≤ 1000000 := hW.2.2.2.1
  have hW6 : ∀ z : Int, 0 ≤ z → z < 8 → -1000000 ≤ τ 18 z ∧ τ 18 z ≤ 1000000 := hW.2.2.2.2
  have hr9 := hR _ (hL2.2.2.2.2 k hk2.1 hk2.2).2
  refine v_iconst F (pc := 0) dX0_countBySlots_0 ?_
  refine v_istore_n F (pc := 1) (lo' := [some (.ref (P 12)), some (.int (iI (k))), some (.int (iI (n))), some (.int (iI (0))), none, none]) dX0_countBySlots_1 (Nat.le_of_ble_eq_true rfl) rfl ?_
  refine v_iconst F (pc := 2) dX0_countBySlots_2 ?_
  refine v_istore F (pc := 3) (lo' := [some (.ref (P 12)), some (.int (iI (k))), some (.int (iI (n))), some (.int (iI (0))), some (.int (iI (0))), none]) dX0_countBySlots_3 (Nat.le_of_ble_eq_true rfl) rfl ?_
  refine v_iconst F (pc := 5) dX0_countBySlots_5 ?_
  refine v_istore F (pc := 6) (lo' := [some (.ref (P 12)), some (.int (iI (k))), some (.int (iI (n))), some (.int (iI (0))), some (.int (iI (0))), some (.int (iI (0)))]) dX0_countBySlots_6 (Nat.le_of_ble_eq_true rfl) rfl ?_
  have LP8 : ∀ (N_ : Nat) (s : Int), (0 ≤ s) → (s ≤ (τ 41 (ad r 2 k))) → ((τ 41 (ad r 2 k)) - s).toNat < N_ → VE pX l eX ({ frames := 4, cells := 0, slots := 0, locals := 84 }) sX mX ([.ref (P 12), .int (iI (k)), .int (iI (n))] : List Value).toArray bX tX cX 6 g AX (cheap g P K r cp b b' τ) 0 0 8 [some (.ref (P 12)), some (.int (iI (k))), some (.int (iI (n))), some (.int (iI ((rn (cEm τ 13 k) n s).1))), some (.int (iI ((rn (cEm τ 13 k) n s).2))), some (.int (iI (s)))] [] (pV (some (.int (iI (rn (cEm τ (12 + 1) k) n (τ 41 (ad r 2 k))).1))) (cheap g P K r cp b b' τ)) (noX) 0 0 := by
    intro N_
    induction N_ with
    | zero => intro s _ _ hm_; exact absurd hm_ (Nat.not_lt_zero _)
    | succ N_ ih =>
      intro s hs0 hs1 hm_
      have hrn := rn_rng (cEm τ 13 k) n hs0
      refine v_iload F (pc := 8) dX0_countBySlots_8 rfl ?_
      refine v_aload_n F (pc := 10) dX0_countBySlots_10 rfl ?_
      refine v_getf F (pc := 11) fd_X0_26_3 (v := .ref (P 1)) dX0_countBySlots_11 (ch_12 hk) rfl ?_
      refine v_getf F (pc := 14) fd_X0_85_6 (v := .ref (P 19)) dX0_countBySlots_14 (ch_1 hk) rfl ?_
      refine v_iload_n F (pc := 17) dX0_countBySlots_17 rfl ?_
      refine v_callVp F (pc := 18) (As := [.int (iI (k))]) (rest := [.int (iI (s))]) ci_X0_97 ct_Jx4a65c_get_915e3 cs_Jx4a65c_get_915e3 (kl_get2 l g (τ := τ) (r := r) (cp := cp) hk hL2 (k := k) (by omega) (show (k : Int) < τ 55 0 by omega)) dX0_countBySlots_18 (k0 := 2) rfl rfl (ch_19 hk) rfl rfl (Nat.le_of_ble_eq_true rfl) (Nat.le_of_ble_eq_true rfl) (Nat.le_of_ble_eq_true rfl) (Nat.le_of_ble_eq_true rfl) (Nat.le_of_ble_eq_true rfl) ?_ (fun _ _ z => z.elim)
      have kq_1 : K (ad r 2 k) = 2 := (hL2.2.2.2.2 k (by omega) (show (k : Int) < τ 55 0 by omega)).2
      have kq_1b := hR _ kq_1
      refine v_castS F (pc := 21) (ci := 5) rfl tk_X0_101 dX0_countBySlots_21 (ch_r hk kq_1) ?_
      refine v_getf F (pc := 24) fd_X0_149_5 (v := .int (iI (τ 41 (ad r 2 k)))) dX0_countBySlots_24 (ch_r hk kq_1) rfl ?_
      refine v_icmp_ge F (pc := 27) (a := s) (b := τ 41 (ad r 2 k)) 73 dX0_countBySlots_27 (by decide) (by omega) (by omega) (fun c_2 => ?_) (fun c_2 => ?_)
      · refine v_iload_n F (pc := 73) dX0_countBySlots_73 rfl ?_
        refine v_iret F (pc := 74) (z := (iI ((rn (cEm τ 13 k) n s).1))) dX0_countBySlots_74 rfl rfl (Nat.le_of_ble_eq_true rfl) (Nat.le_of_ble_eq_true rfl) ?_
        exact ⟨congrArg (fun z => some (Value.int (iI z))) (by rw [show s = τ 41 (ad r 2 k) by omega]), rfl⟩
      · refine v_aload_n F (pc := 30) dX0_countBySlots_30 rfl ?_
        refine v_getf F (pc := 31) fd_X0_9_3 (v := .ref (P 13)) dX0_countBySlots_31 (ch_12 hk) rfl ?_
        refine v_iload_n F (pc := 34) dX0_countBySlots_34 rfl ?_
        refine v_iload F (pc := 35) dX0_countBySlots_35 rfl ?_
        refine v_callNp F (pc := 37) (As := [.int (iI (k)), .int (iI (s))]) (rest := [.ref (P 13)]) cn_X0_150 ct_X4_cellAt (k_X4_cellAt l g k s) dX0_countBySlots_37 rfl rfl (Nat.le_of_ble_eq_true rfl) (Nat.le_of_ble_eq_true rfl) (Nat.le_of_ble_eq_true rfl) (Nat.le_of_ble_eq_true rfl) (Nat.le_of_ble_eq_true rfl) ?_
        refine v_iald F (pc := 40) (n := 160) (f := τ 13) (z := k * 20 + s) dX0_countBySlots_40 (ch_13 hk) (by omega) (by decide) ?_
        have bd_3 := hW1 (k * 20 + s) (by omega) (by omega)
        refine v_iconst F (pc := 41) dX0_countBySlots_41 ?_
        refine v_icmp_ne F (pc := 42) (a := (τ 13) (k * 20 + s)) (b := -1) 52 dX0_countBySlots_42 (by decide) (by omega) (by omega) (fun c_4 => ?_) (fun c_4 => ?_)
        · have hE : cEm τ 13 k s = false := decide_eq_false c_4
          refine v_iconst F (pc := 52) dX0_countBySlots_52 ?_
          refine v_istore F (pc := 53) (lo' := [some (.ref (P 12)), some (.int (iI (k))), some (.int (iI (n))), some (.int (iI ((rn (cEm τ 13 k) n s).1))), some (.int (iI (0))), some (.int (iI (s)))]) dX0_countBySlots_53 (Nat.le_of_ble_eq_true rfl) rfl ?_
          refine v_iload F (pc := 55) dX0_countBySlots_55 rfl ?_
          refine v_iload_n F (pc := 57) dX0_countBySlots_57 rfl ?_
          refine v_icmp_ne F (pc := 58) (a := 0) (b := n) 67 dX0_countBySlots_58 (by decide) (by omega) (by omega) (fun c_5 => ?_) (fun c_5 => ?_)
          · have hq9 := c_5
            refine v_iinc F (pc := 67) (lo' := [some (.ref (P 12)), some (.int (iI (k))), some (.int (iI (n))), some (.int (iI ((rn (cEm τ 13 k) n s).1))), some (.int (iI (0))), some (.int (iI (s + 1)))]) dX0_countBySlots_67 rfl (Nat.le_of_ble_eq_true rfl) rfl ?_
            refine v_goto F (pc := 70) 8 dX0_countBySlots_70 (by decide) ?_
            have e_0 : (rn (cEm τ 13 k) n (s + 1)).1 = (rn (cEm τ 13 k) n s).1 := by rw [rn_s _ n hs0, hE]; exact (congrArg Prod.fst (if_neg hq9)).trans rfl
            have e_1 : (rn (cEm τ 13 k) n (s + 1)).2 = 0 := by rw [rn_s _ n hs0, hE]; exact (congrArg Prod.snd (if_neg hq9)).trans rfl
            have ih2 := ih (s + 1) (by omega) (by omega)  (by omega)
            rw [e_0, e_1] at ih2
            exact ih2
          · have hq9 := c_5
            refine v_iinc F (pc := 61) (lo' := [some (.ref (P 12)), some (.int (iI (k))), some (.int (iI (n))), some (.int (iI ((rn (cEm τ 13 k) n s).1 + 1))), some (.int (iI (0))), some (.int (iI (s)))]) dX0_countBySlots_61 rfl (Nat.le_of_ble_eq_true rfl) rfl ?_
            refine v_iconst F (pc := 64) dX0_countBySlots_64 ?_
            refine v_istore F (pc := 65) (lo' := [some (.ref (P 12)), some (.int (iI (k))), some (.int (iI (n))), some (.int (iI ((rn (cEm τ 13 k) n s).1 + 1))), some (.int (iI (0))), some (.int (iI (s)))]) dX0_countBySlots_65 (Nat.le_of_ble_eq_true rfl) rfl ?_
            refine v_iinc F (pc := 67) (lo' := [some (.ref (P 12)), some (.int (iI (k))), some (.int (iI (n))), some (.int (iI ((rn (cEm τ 13 k) n s).1 + 1))), some (.int (iI (0))), some (.int (iI (s + 1)))]) dX0_countBySlots_67 rfl (Nat.le_of_ble_eq_true rfl) rfl ?_
            refine v_goto F (pc := 70) 8 dX0_countBySlots_70 (by decide) ?_
            have e_0 : (rn (cEm τ 13 k) n (s + 1)).1 = (rn (cEm τ 13 k) n s).1 + 1 := by rw [rn_s _ n hs0, hE]; exact (congrArg Prod.fst (if_pos hq9)).trans rfl
            have e_1 : (rn (cEm τ 13 k) n (s + 1)).2 = 0 := by rw [rn_s _ n hs0, hE]; exact (congrArg Prod.snd (if_pos hq9)).trans rfl
            have ih2 := ih (s + 1) (by omega) (by omega)  (by omega)
            rw [e_0, e_1] at ih2
            exact ih2
        · have hE : cEm τ 13 k s = true := decide_eq_true c_4
          refine v_iload F (pc := 45) dX0_countBySlots_45 rfl ?_
          refine v_iconst F (pc := 47) dX0_countBySlots_47 ?_
          refine v_iadd F (pc := 48) (a := (rn (cEm τ 13 k) n s).2) (b := 1) dX0_countBySlots_48 ?_
          refine v_goto F (pc := 49) 53 dX0_countBySlots_49 (by decide) ?_
          refine v_istore F (pc := 53) (lo' := [some (.ref (P 12)), some (.int (iI (k))), some (.int (iI (n))), some (.int (iI ((rn (cEm τ 13 k) n s).1))), some (.int (iI (((rn (cEm τ 13 k) n s).2) + 1))), some (.int (iI (s)))]) dX0_countBySlots_53 (Nat.le_of_ble_eq_true rfl) rfl ?_
          refine v_iload F (pc := 55) dX0_countBySlots_55 rfl ?_
          refine v_iload_n F (pc := 57) dX0_countBySlots_57 rfl ?_
          refine v_icmp_ne F (pc := 58) (a := ((rn (cEm τ 13 k) n s).2) + 1) (b := n) 67 dX0_countBySlots_58 (by decide) (by omega) (by omega) (fun c_6 => ?_) (fun c_6 => ?_)
          · have hq9 := c_6
            refine v_iinc F (pc := 67) (lo' := [some (.ref (P 12)), some (.int (iI (k))), some (.int (iI (n))), some (.int (iI ((rn (cEm τ 13 k) n s).1))), some (.int (iI (((rn (cEm τ 13 k) n s).2) + 1))), some (.int (iI (s + 1)))]) dX0_countBySlots_67 rfl (Nat.le_of_ble_eq_true rfl) rfl ?_
            refine v_goto F (pc := 70) 8 dX0_countBySlots_70 (by decide) ?_
            have e_0 : (rn (cEm τ 13 k) n (s + 1)).1 = (rn (cEm τ 13 k) n s).1 := by rw [rn_s _ n hs0, hE]; exact (congrArg Prod.fst (if_neg hq9)).trans rfl
            have e_1 : (rn (cEm τ 13 k) n (s + 1)).2 = ((rn (cEm τ 13 k) n s).2) + 1 := by rw [rn_s _ n hs0, hE]; exact (congrArg Prod.snd (if_neg hq9)).trans rfl
            have ih2 := ih (s + 1) (by omega) (by omega)  (by omega)
            rw [e_0, e_1] at ih2
            exact ih2
          · have hq9 := c_6
            refine v_iinc F (pc := 61) (lo' := [some (.ref (P 12)), some (.int (iI (k))), some (.int (iI (n))), some (.int (iI ((rn (cEm τ 13 k) n s).1 + 1))), some (.int (iI (((rn (cEm τ 13 k) n s).2) + 1))), some (.int (iI (s)))]) dX0_countBySlots_61 rfl (Nat.le_of_ble_eq_true rfl) rfl ?_
            refine v_iconst F (pc := 64) dX0_countBySlots_64 ?_
            refine v_istore F (pc := 65) (lo' := [some (.ref (P 12)), some (.int (iI (k))), some (.int (iI (n))), some (.int (iI ((rn (cEm τ 13 k) n s).1 + 1))), some (.int (iI (0))), some (.int (iI (s)))]) dX0_countBySlots_65 (Nat.le_of_ble_eq_true rfl) rfl ?_
            refine v_iinc F (pc := 67) (lo' := [some (.ref (P 12)), some (.int (iI (k))), some (.int (iI (n))), some (.int (iI ((rn (cEm τ 13 k) n s).1 + 1))), some (.int (iI (0))), some (.int (iI (s + 1)))]) dX0_countBySlots_67 rfl (Nat.le_of_ble_eq_true rfl) rfl ?_
            refine v_goto F (pc := 70) 8 dX0_countBySlots_70 (by decide) ?_
            have e_0 : (rn (cEm τ 13 k) n (s + 1)).1 = (rn (cEm τ 13 k) n s).1 + 1 := by rw [rn_s _ n hs0, hE]; exact (congrArg Prod.fst (if_pos hq9)).trans rfl
            have e_1 : (rn (cEm τ 13 k) n (s + 1)).2 = 0 := by rw [rn_s _ n hs0, hE]; exact (congrArg Prod.snd (if_pos hq9)).trans rfl
            have ih2 := ih (s + 1) (by omega) (by omega)  (by omega)
            rw [e_0, e_1] at ih2
            exact ih2
  exact LP8 _ 0 (Int.le_refl _) (by omega)  (Nat.lt_succ_self _)
theorem k_X0_countBySlots (l : Launch) (g : gT) {w : Nat} (hw : w = 5 ∨ w = 12) {P K : Nat → Nat} {r : Nat → Int → Option Nat} {cp : Nat → Nat} {b b' : Nat} {τ : sT} (hk : cok P K cp) (hV : CV K r cp τ) (hW : Wb τ w) (k : Int) (hk2 : 0 ≤ k ∧ k < τ 55 0) (n : Int) (hn : 1 ≤ n ∧ n ≤ 20) : CM l g yX0_countBySlots cX0_countBySlots 6 (some .int) { frames := 4, cells := 0, slots := 0, locals := 84 } [.ref (P w), .int (iI (k)), .int (iI (n))] (cheap g P K r cp b b' τ) (pV (some (.int (iI (rn (cEm τ (w + 1) k) n (τ 41 (ad r 2 k))).1))) (cheap g P K r cp b b' τ)) (noX) := by
  rcases hw with rfl | rfl
  · exact k_X0_countBySlots_5 l g hk hV hW k hk2 n hn
  · exact k_X0_countBySlots_12 l g hk hV hW k hk2 n hn
-- X0_countForRack
set_option maxRecDepth 100000 in
set_option maxHeartbeats 8000000 in
theorem k_X0_countForRack_5 (l : Launch) (g : gT) {P K : Nat → Nat} {r : Nat → Int → Option Nat} {cp : Nat → Nat} {b b' : Nat} {τ : sT} (hk : cok P K cp) (hV : CV K r cp τ) (hW : Wb τ 5) (hML : cML r τ 5) (k : Int) (hk2 : 0 ≤ k ∧ k < τ 55 0) {m : Nat} (hm : K m = 1) : CM l g yX0_countForRack cX0_countForRack 6 (some .int) ({ frames := 5, cells := 0, slots := 0, locals := 109 }) [.ref (P 5), .int (iI (k)), .ref m] (cheap g P K r cp b b' τ) (pV (some (.int (iI (cCR r τ 5 k m)))) (cheap g P K r cp b b' τ)) (noX) := by
  refine CM.of (lo := [some (.ref (P 5)), some (.int (iI (k))), some (.ref m), none, none, none]) (by decide) (Nat.le_of_ble_eq_true rfl) (by simp [Value.category]) rfl ?_
  intro pX eX sX mX bX tX cX AX F htab hmn
  have F : Fx pX l sX mX ([.ref (P 5), .int (iI (k)), .ref m] : List Value).toArray tX cX cX0_countForRack 6 (some .int) RX0 g AX := F
  have hM := hV.1
  have hR := hV.2.1
  have hL0 := hV.2.2.1
  have hL1 := hV.2.2.2.1
  have hL2 := hV.2.2.2.2.1
  have hS20 := hV.2.2.2.2.2.1
  have hS21 := hV.2.2.2.2.2.2.1
  have hS22 := hV.2.2.2.2.2.2.2.1
  have hS2 := hV.2.2.2.2.2.2.2.2.1
  have hn8 : 0 ≤ τ 55 0 ∧ τ 55 0 ≤ 8 := ⟨hL2.1, hL2.2.2.2.1⟩
  have hn60 : 0 ≤ τ 53 0 ∧ τ 53 0 ≤ 60 := ⟨hL0.1, hL0.2.2.2.1⟩
  have hW1 : ∀ z : Int, 0 ≤ z → z < 160 → -1 ≤ τ 6 z ∧ τ 6 z ≤ 1000000 := hW.1
  have hW2 : ∀ z : Int, 0 ≤ z → z < 8 → -1000000 ≤ τ 7 z ∧ τ 7 z ≤ 1000000 := hW.2.1
  have hW3 : ∀ z : Int, 0 ≤ z → z < 8 → -1000000 ≤ τ 8 z ∧ τ 8 z ≤ 1000000 := hW.2.2.1
  have hW5 : ∀ z : Int, 0 ≤ z → z < 8 → -1000000 ≤ τ 10 z ∧ τ 10 z ≤ 1000000 := hW.2.2.2.1
  have hW6 : ∀ z : Int, 0 ≤ z → z < 8 → -1000000 ≤ τ 11 z ∧ τ 11 z ≤ 1000000 := hW.2.2.2.2
  have hmb := hM m hm
  have hp0 := m_pw_2000 (c := τ 34 m) (f := 0) hmb.2.2.1
  have hp1 := m_pw_2000 (c := τ 34 m) (f := 1) hmb.2.2.1
  have hr9 := hR _ (hL2.2.2.2.2 k hk2.1 hk2.2).2
  have hml := hML.1 k hk2.1 hk2.2
  have hml1 : τ 7 k ≤ τ 42 (ad r 2 k) := hml.1
  have hml2 : τ 10 k ≤ τ 43 (ad r 2 k) := hml.2.1
  have hml3 : τ 11 k ≤ τ 43 (ad r 2 k) := hml.2.2
  refine v_aload_n F (pc := 0) dX0_countForRack_0 rfl ?_
  refine v_getf F (pc := 1) fd_X0_26_3 (v := .ref (P 1)) dX0_countForRack_1 (ch_5 hk) rfl ?_
  refine v_getf F (pc := 4) fd_X0_85_6 (v := .ref (P 19)) dX0_countForRack_4 (ch_1 hk) rfl ?_
  refine v_iload_n F (pc := 7) dX0_countForRack_7 rfl ?_
  refine v_callVp F (pc := 8) (As := [.int (iI (k))]) (rest := []) ci_X0_97 ct_Jx4a65c_get_915e3 cs_Jx4a65c_get_915e3 (kl_get2 l g (τ := τ) (r := r) (cp := cp) hk hL2 (k := k) (by omega) (show (k : Int) < τ 55 0 by omega)) dX0_countForRack_8 (k0 := 2) rfl rfl (ch_19 hk) rfl rfl (Nat.le_of_ble_eq_true rfl) (Nat.le_of_ble_eq_true rfl) (Nat.le_of_ble_eq_true rfl) (Nat.le_of_ble_eq_true rfl) (Nat.le_of_ble_eq_true rfl) ?_ (fun _ _ z => z.elim)
  have kq_1 : K (ad r 2 k) = 2 := (hL2.2.2.2.2 k (by omega) (show (k : Int) < τ 55 0 by omega)).2
  have kq_1b := hR _ kq_1
  refine v_castS F (pc := 11) (ci := 5) rfl tk_X0_101 dX0_countForRack_11 (ch_r hk kq_1) ?_
  refine v_astore_n F (pc := 14) (lo' := [some (.ref (P 5)), some (.int (iI (k))), some (.ref m), some (.ref (ad r 2 k)), none, none]) dX0_countForRack_14 (Nat.le_of_ble_eq_true rfl) rfl ?_
  refine v_aload_n F (pc := 15) dX0_countForRack_15 rfl ?_
  refine v_iload_n F (pc := 16) dX0_countForRack_16 rfl ?_
  refine v_aload_n F (pc := 17) dX0_countForRack_17 rfl ?_
  refine v_getf F (pc := 18) fd_X0_42_4 (v := .int (iI (τ 31 (m : Nat)))) dX0_countForRack_18 (ch_m hk hm) rfl ?_
  refine v_callVp F (pc := 21) (As := [.int (iI (k)), .int (iI (τ 31 (m : Nat)))]) (rest := []) ci_X0_165 ct_X0_countBySlots cs_X0_countBySlots (k_X0_countBySlots l g (Or.inl rfl) hk (τ := τ) (K := K) (r := r) (cp := cp) (b := b) (b' := b') hV hW k (by omega) (τ 31 (m : Nat)) (by omega)) dX0_countForRack_21 (k0 := 3) rfl rfl (ch_5 hk) rfl rfl (Nat.le_of_ble_eq_true rfl) (Nat.le_of_ble_eq_true rfl) (Nat.le_of_ble_eq_true rfl) (Nat.le_of_ble_eq_true rfl) (Nat.le_of_ble_eq_true rfl) ?_ (fun _ _ z => z.elim)
  have rg_2 := rn_rng (cEm τ 6 k) (τ 31 (m : Nat)) (s := τ 41 (ad r 2 k)) (by omega)
  refine v_istore F (pc := 24) (lo' := [some (.ref (P 5)), some (.int (iI (k))), some (.ref m), some (.ref (ad r 2 k)), some (.int (iI ((rn (cEm τ 6 k) (τ 31 (m : Nat)) (τ 41 (ad r 2 k))).1))), none]) dX0_countForRack_24 (Nat.le_of_ble_eq_true rfl) rfl ?_
  refine v_iload F (pc := 26) dX0_countForRack_26 rfl ?_
  refine v_aload_n F (pc := 28) dX0_countForRack_28 rfl ?_
  refine v_getf F (pc := 29) fd_X0_121_5 (v := .int (iI (τ 42 (ad r 2 k)))) dX0_countForRack_29 (ch_r hk kq_1) rfl ?_
  refine v_aload_n F (pc := 32) dX0_countForRack_32 rfl ?_
  refine v_getf F (pc := 33) fd_X0_15_3 (v := .ref (P 7)) dX0_countForRack_33 (ch_5 hk) rfl ?_
  refine v_iload_n F (pc := 36) dX0_countForRack_36 rfl ?_
  refine v_iald F (pc := 37) (n := 8) (f := τ 7) (z := k) dX0_countForRack_37 (ch_7 hk) (by omega) (by decide) ?_
  have bd_3 := hW2 k (by omega) (by omega)
  refine v_isub F (pc := 38) (a := τ 42 (ad r 2 k)) (b := (τ 7) k) dX0_countForRack_38 ?_
  refine v_aload_n F (pc := 39) dX0_countForRack_39 rfl ?_
  refine v_getf F (pc := 40) fd_X0_66_4 (v := .int (iI (τ 33 (m : Nat)))) dX0_countForRack_40 (ch_m hk hm) rfl ?_
  refine v_callNp F (pc := 43) (As := [.int (iI ((rn (cEm τ 6 k) (τ 31 (m : Nat)) (τ 41 (ad r 2 k))).1)), .int (iI ((τ 42 (ad r 2 k)) - ((τ 7) k))), .int (iI (τ 33 (m : Nat)))]) (rest := []) cn_X0_161 ct_X4_atMost (k_X4_atMost l g ((rn (cEm τ 6 k) (τ 31 (m : Nat)) (τ 41 (ad r 2 k))).1) ((τ 42 (ad r 2 k)) - ((τ 7) k)) (τ 33 (m : Nat)) (by omega) (by omega) (by omega)) dX0_countForRack_43 rfl rfl (Nat.le_of_ble_eq_true rfl) (Nat.le_of_ble_eq_true rfl) (Nat.le_of_ble_eq_true rfl) (Nat.le_of_ble_eq_true rfl) (Nat.le_of_ble_eq_true rfl) ?_
  have rg_4 : 0 ≤ cAM ((rn (cEm τ 6 k) (τ 31 (m : Nat)) (τ 41 (ad r 2 k))).1) ((τ 42 (ad r 2 k)) - ((τ 7) k)) (τ 33 (m : Nat)) ∧ cAM ((rn (cEm τ 6 k) (τ 31 (m : Nat)) (τ 41 (ad r 2 k))).1) ((τ 42 (ad r 2 k)) - ((τ 7) k)) (τ 33 (m : Nat)) ≤ ((rn (cEm τ 6 k) (τ 31 (m : Nat)) (τ 41 (ad r 2 k))).1) := cAM_rng (by omega) (by omega)
  refine v_istore F (pc := 46) (lo' := [some (.ref (P 5)), some (.int (iI (k))), some (.ref m), some (.ref (ad r 2 k)), some (.int (iI (cAM ((rn (cEm τ 6 k) (τ 31 (m : Nat)) (τ 41 (ad r 2 k))).1) ((τ 42 (ad r 2 k)) - ((τ 7) k)) (τ 33 (m : Nat))))), none]) dX0_countForRack_46 (Nat.le_of_ble_eq_true rfl) rfl ?_
  refine v_iconst F (pc := 48) dX0_countForRack_48 ?_
  refine v_istore F (pc := 49) (lo' := [some (.ref (P 5)), some (.int (iI (k))), some (.ref m), some (.ref (ad r 2 k)), some (.int (iI (cAM ((rn (cEm τ 6 k) (τ 31 (m : Nat)) (τ 41 (ad r 2 k))).1) ((τ 42 (ad r 2 k)) - ((τ 7) k)) (τ 33 (m : Nat))))), some (.int (iI (0)))]) dX0_countForRack_49 (Nat.le_of_ble_eq_true rfl) rfl ?_
  refine v_iload F (pc := 51) dX0_countForRack_51 rfl ?_
  refine v_iconst F (pc := 53) dX0_countForRack_53 ?_
  refine v_icmp_ge F (pc := 54) (a := 0) (b := 2) 90 dX0_countForRack_54 (by decide) (by omega) (by omega) (fun c_5 => ?_) (fun c_5 => ?_)
  · exact absurd c_5 (by decide)
  · refine v_iload F (pc := 57) dX0_countForRack_57 rfl ?_
    refine v_aload_n F (pc := 59) dX0_countForRack_59 rfl ?_
    refine v_getf F (pc := 60) fd_X0_140_5 (v := .int (iI (τ 43 (ad r 2 k)))) dX0_countForRack_60 (ch_r hk kq_1) rfl ?_
    refine v_aload_n F (pc := 63) dX0_countForRack_63 rfl ?_
    refine v_getf F (pc := 64) fd_X0_23_3 (v := .ref (P 9)) dX0_countForRack_64 (ch_5 hk) rfl ?_
    refine v_iload F (pc := 67) dX0_countForRack_67 rfl ?_
    refine v_aaldA F (pc := 69) (n := 2) (r := cout P 5) (z := 0) (q := P 10) dX0_countForRack_69 (ch_9 hk) (by omega) (by decide) rfl ?_
    refine v_iload_n F (pc := 70) dX0_countForRack_70 rfl ?_
    refine v_iald F (pc := 71) (n := 8) (f := τ 10) (z := k) dX0_countForRack_71 (ch_10 hk) (by omega) (by decide) ?_
    have bd_6 := hW5 k (by omega) (by omega)
    refine v_isub F (pc := 72) (a := τ 43 (ad r 2 k)) (b := (τ 10) k) dX0_countForRack_72 ?_
    refine v_aload_n F (pc := 73) dX0_countForRack_73 rfl ?_
    refine v_iload F (pc := 74) dX0_countForRack_74 rfl ?_
    refine v_callVp F (pc := 76) (As := [.int (iI (0))]) (rest := [.int (iI ((τ 43 (ad r 2 k)) - ((τ 10) k))), .int (iI (cAM ((rn (cEm τ 6 k) (τ 31 (m : Nat)) (τ 41 (ad r 2 k))).1) ((τ 42 (ad r 2 k)) - ((τ 7) k)) (τ 33 (m : Nat))))]) ci_X0_71 ct_X1_worstOn cs_X1_worstOn (k_X1_worstOn l g hk (τ := τ) (K := K) (r := r) (cp := cp) (b := b) (b' := b') (m := m) hm hmb 0 (by omega)) dX0_countForRack_76 (k0 := 4) rfl rfl (ch_m hk hm) rfl rfl (Nat.le_of_ble_eq_true rfl) (Nat.le_of_ble_eq_true rfl) (Nat.le_of_ble_eq_true rfl) (Nat.le_of_ble_eq_true rfl) (Nat.le_of_ble_eq_true rfl) ?_ (fun _ _ z => z.elim)
    refine v_callNp F (pc := 79) (As := [.int (iI (cAM ((rn (cEm τ 6 k) (τ 31 (m : Nat)) (τ 41 (ad r 2 k))).1) ((τ 42 (ad r 2 k)) - ((τ 7) k)) (τ 33 (m : Nat)))), .int (iI ((τ 43 (ad r 2 k)) - ((τ 10) k))), .int (iI (m_pw (τ 34 m) 0 (τ 32 m)))]) (rest := []) cn_X0_161 ct_X4_atMost (k_X4_atMost l g (cAM ((rn (cEm τ 6 k) (τ 31 (m : Nat)) (τ 41 (ad r 2 k))).1) ((τ 42 (ad r 2 k)) - ((τ 7) k)) (τ 33 (m : Nat))) ((τ 43 (ad r 2 k)) - ((τ 10) k)) (m_pw (τ 34 m) 0 (τ 32 m)) (by omega) (by omega) (by omega)) dX0_countForRack_79 rfl rfl (Nat.le_of_ble_eq_true rfl) (Nat.le_of_ble_eq_true rfl) (Nat.le_of_ble_eq_true rfl) (Nat.le_of_ble_eq_true rfl) (Nat.le_of_ble_eq_true rfl) ?_
    have rg_7 : 0 ≤ cAM (cAM ((rn (cEm τ 6 k) (τ 31 (m : Nat)) (τ 41 (ad r 2 k))).1) ((τ 42 (ad r 2 k)) - ((τ 7) k)) (τ 33 (m : Nat))) ((τ 43 (ad r 2 k)) - ((τ 10) k)) (m_pw (τ 34 m) 0 (τ 32 m)) ∧ cAM (cAM ((rn (cEm τ 6 k) (τ 31 (m : Nat)) (τ 41 (ad r 2 k))).1) ((τ 42 (ad r 2 k)) - ((τ 7) k)) (τ 33 (m : Nat))) ((τ 43 (ad r 2 k)) - ((τ 10) k)) (m_pw (τ 34 m) 0 (τ 32 m)) ≤ (cAM ((rn (cEm τ 6 k) (τ 31 (m : Nat)) (τ 41 (ad r 2 k))).1) ((τ 42 (ad r 2 k)) - ((τ 7) k)) (τ 33 (m : Nat))) := cAM_rng (by omega) (by omega)
    refine v_istore F (pc := 82) (lo' := [some (.ref (P 5)), some (.int (iI (k))), some (.ref m), some (.ref (ad r 2 k)), some (.int (iI (cAM (cAM ((rn (cEm τ 6 k) (τ 31 (m : Nat)) (τ 41 (ad r 2 k))).1) ((τ 42 (ad r 2 k)) - ((τ 7) k)) (τ 33 (m : Nat))) ((τ 43 (ad r 2 k)) - ((τ 10) k)) (m_pw (τ 34 m) 0 (τ 32 m))))), some (.int (iI (0)))]) dX0_countForRack_82 (Nat.le_of_ble_eq_true rfl) rfl ?_
    refine v_iinc F (pc := 84) (lo' := [some (.ref (P 5)), some (.int (iI (k))), some (.ref m), some (.ref (ad r 2 k)), some (.int (iI (cAM (cAM ((rn (cEm τ 6 k) (τ 31 (m : Nat)) (τ 41 (ad r 2 k))).1) ((τ 42 (ad r 2 k)) - ((τ 7) k)) (τ 33 (m : Nat))) ((τ 43 (ad r 2 k)) - ((τ 10) k)) (m_pw (τ 34 m) 0 (τ 32 m))))), some (.int (iI (1)))]) dX0_countForRack_84 rfl (Nat.le_of_ble_eq_true rfl) rfl ?_
    refine v_goto F (pc := 87) 51 dX0_countForRack_87 (by decide) ?_
    refine v_iload F (pc := 51) dX0_countForRack_51 rfl ?_
    refine v_iconst F (pc := 53) dX0_countForRack_53 ?_
    refine v_icmp_ge F (pc := 54) (a := 1) (b := 2) 90 dX0_countForRack_54 (by decide) (by omega) (by omega) (fun c_8 => ?_) (fun c_8 => ?_)
    · exact absurd c_8 (by decide)
    · refine v_iload F (pc := 57) dX0_countForRack_57 rfl ?_
      refine v_aload_n F (pc := 59) dX0_countForRack_59 rfl ?_
      refine v_getf F (pc := 60) fd_X0_140_5 (v := .int (iI (τ 43 (ad r 2 k)))) dX0_countForRack_60 (ch_r hk kq_1) rfl ?_
      refine v_aload_n F (pc := 63) dX0_countForRack_63 rfl ?_
      refine v_getf F (pc := 64) fd_X0_23_3 (v := .ref (P 9)) dX0_countForRack_64 (ch_5 hk) rfl ?_
      refine v_iload F (pc := 67) dX0_countForRack_67 rfl ?_
      refine v_aaldA F (pc := 69) (n := 2) (r := cout P 5) (z := 1) (q := P 11) dX0_countForRack_69 (ch_9 hk) (by omega) (by decide) rfl ?_
      refine v_iload_n F (pc := 70) dX0_countForRack_70 rfl ?_
      refine v_iald F (pc := 71) (n := 8) (f := τ 11) (z := k) dX0_countForRack_71 (ch_11 hk) (by omega) (by decide) ?_
      have bd_9 := hW6 k (by omega) (by omega)
      refine v_isub F (pc := 72) (a := τ 43 (ad r 2 k)) (b := (τ 11) k) dX0_countForRack_72 ?_
      refine v_aload_n F (pc := 73) dX0_countForRack_73 rfl ?_
      refine v_iload F (pc := 74) dX0_countForRack_74 rfl ?_
      refine v_callVp F (pc := 76) (As := [.int (iI (1))]) (rest := [.int (iI ((τ 43 (ad r 2 k)) - ((τ 11) k))), .int (iI (cAM (cAM ((rn (cEm τ 6 k) (τ 31 (m : Nat)) (τ 41 (ad r 2 k))).1) ((τ 42 (ad r 2 k)) - ((τ 7) k)) (τ 33 (m : Nat))) ((τ 43 (ad r 2 k)) - ((τ 10) k)) (m_pw (τ 34 m) 0 (τ 32 m))))]) ci_X0_71 ct_X1_worstOn cs_X1_worstOn (k_X1_worstOn l g hk (τ := τ) (K := K) (r := r) (cp := cp) (b := b) (b' := b') (m := m) hm hmb 1 (by omega)) dX0_countForRack_76 (k0 := 4) rfl rfl (ch_m hk hm) rfl rfl (Nat.le_of_ble_eq_true rfl) (Nat.le_of_ble_eq_true rfl) (Nat.le_of_ble_eq_true rfl) (Nat.le_of_ble_eq_true rfl) (Nat.le_of_ble_eq_true rfl) ?_ (fun _ _ z => z.elim)
      refine v_callNp F (pc := 79) (As := [.int (iI (cAM (cAM ((rn (cEm τ 6 k) (τ 31 (m : Nat)) (τ 41 (ad r 2 k))).1) ((τ 42 (ad r 2 k)) - ((τ 7) k)) (τ 33 (m : Nat))) ((τ 43 (ad r 2 k)) - ((τ 10) k)) (m_pw (τ 34 m) 0 (τ 32 m)))), .int (iI ((τ 43 (ad r 2 k)) - ((τ 11) k))), .int (iI (m_pw (τ 34 m) 1 (τ 32 m)))]) (rest := []) cn_X0_161 ct_X4_atMost (k_X4_atMost l g (cAM (cAM ((rn (cEm τ 6 k) (τ 31 (m : Nat)) (τ 41 (ad r 2 k))).1) ((τ 42 (ad r 2 k)) - ((τ 7) k)) (τ 33 (m : Nat))) ((τ 43 (ad r 2 k)) - ((τ 10) k)) (m_pw (τ 34 m) 0 (τ 32 m))) ((τ 43 (ad r 2 k)) - ((τ 11) k)) (m_pw (τ 34 m) 1 (τ 32 m)) (by omega) (by omega) (by omega)) dX0_countForRack_79 rfl rfl (Nat.le_of_ble_eq_true rfl) (Nat.le_of_ble_eq_true rfl) (Nat.le_of_ble_eq_true rfl) (Nat.le_of_ble_eq_true rfl) (Nat.le_of_ble_eq_true rfl) ?_
      have rg_10 : 0 ≤ cAM (cAM (cAM ((rn (cEm τ 6 k) (τ 31 (m : Nat)) (τ 41 (ad r 2 k))).1) ((τ 42 (ad r 2 k)) - ((τ 7) k)) (τ 33 (m : Nat))) ((τ 43 (ad r 2 k)) - ((τ 10) k)) (m_pw (τ 34 m) 0 (τ 32 m))) ((τ 43 (ad r 2 k)) - ((τ 11) k)) (m_pw (τ 34 m) 1 (τ 32 m)) ∧ cAM (cAM (cAM ((rn (cEm τ 6 k) (τ 31 (m : Nat)) (τ 41 (ad r 2 k))).1) ((τ 42 (ad r 2 k)) - ((τ 7) k)) (τ 33 (m : Nat))) ((τ 43 (ad r 2 k)) - ((τ 10) k)) (m_pw (τ 34 m) 0 (τ 32 m))) ((τ 43 (ad r 2 k)) - ((τ 11) k)) (m_pw (τ 34 m) 1 (τ 32 m)) ≤ (cAM (cAM ((rn (cEm τ 6 k) (τ 31 (m : Nat)) (τ 41 (ad r 2 k))).1) ((τ 42 (ad r 2 k)) - ((τ 7) k)) (τ 33 (m : Nat))) ((τ 43 (ad r 2 k)) - ((τ 10) k)) (m_pw (τ 34 m) 0 (τ 32 m))) := cAM_rng (by omega) (by omega)
      refine v_istore F (pc := 82) (lo' := [some (.ref (P 5)), some (.int (iI (k))), some (.ref m), some (.ref (ad r 2 k)), some (.int (iI (cAM (cAM (cAM ((rn (cEm τ 6 k) (τ 31 (m : Nat)) (τ 41 (ad r 2 k))).1) ((τ 42 (ad r 2 k)) - ((τ 7) k)) (τ 33 (m : Nat))) ((τ 43 (ad r 2 k)) - ((τ 10) k)) (m_pw (τ 34 m) 0 (τ 32 m))) ((τ 43 (ad r 2 k)) - ((τ 11) k)) (m_pw (τ 34 m) 1 (τ 32 m))))), some (.int (iI (1)))]) dX0_countForRack_82 (Nat.le_of_ble_eq_true rfl) rfl ?_
      refine v_iinc F (pc := 84) (lo' := [some (.ref (P 5)), some (.int (iI (k))), some (.ref m), some (.ref (ad r 2 k)), some (.int (iI (cAM (cAM (cAM ((rn (cEm τ 6 k) (τ 31 (m : Nat)) (τ 41 (ad r 2 k))).1) ((τ 42 (ad r 2 k)) - ((τ 7) k)) (τ 33 (m : Nat))) ((τ 43 (ad r 2 k)) - ((τ 10) k)) (m_pw (τ 34 m) 0 (τ 32 m))) ((τ 43 (ad r 2 k)) - ((τ 11) k)) (m_pw (τ 34 m) 1 (τ 32 m))))), some (.int (iI (2)))]) dX0_countForRack_84 rfl (Nat.le_of_ble_eq_true rfl) rfl ?_
      refine v_goto F (pc := 87) 51 dX0_countForRack_87 (by decide) ?_
      refine v_iload F (pc := 51) dX0_countForRack_51 rfl ?_
      refine v_iconst F (pc := 53) dX0_countForRack_53 ?_
      refine v_icmp_ge F (pc := 54) (a := 2) (b := 2) 90 dX0_countForRack_54 (by decide) (by omega) (by omega) (fun c_11 => ?_) (fun c_11 => ?_)
      · refine v_iload F (pc := 90) dX0_countForRack_90 rfl ?_
        refine v_iret F (pc := 92) (z := (iI (cAM (cAM (cAM ((rn (cEm τ 6 k) (τ 31 (m : Nat)) (τ 41 (ad r 2 k))).1) ((τ 42 (ad r 2 k)) - ((τ 7) k)) (τ 33 (m : Nat))) ((τ 43 (ad r 2 k)) - ((τ 10) k)) (m_pw (τ 34 m) 0 (τ 32 m))) ((τ 43 (ad r 2 k)) - ((τ 11) k)) (m_pw (τ 34 m) 1 (τ 32 m))))) dX0_countForRack_92 rfl rfl (Nat.le_of_ble_eq_true rfl) (Nat.le_of_ble_eq_true rfl) ?_
        exact ⟨rfl, rfl⟩
      · exact absurd c_11 (by decide)
-- X0_countForRack
set_option maxRecDepth 100000 in
set_option maxHeartbeats 8000000 in
theorem k_X0_countForRack_12 (l : Launch) (g : gT) {P K : Nat → Nat} {r : Nat → Int → Option Nat} {cp : Nat → Nat} {b b' : Nat} {τ : sT} (hk : cok P K cp) (hV : CV K r cp τ) (hW : Wb τ 12) (hML : cML r τ 12) (k : Int) (hk2 : 0 ≤ k ∧ k < τ 55 0) {m : Nat} (hm : K m = 1) : CM l g yX0_countForRack cX0_countForRack 6 (some .int) ({ frames := 5, cells := 0, slots := 0, locals := 109 }) [.ref (P 12), .int (iI (k)), .ref m] (cheap g P K r cp b b' τ) (pV (some (.int (iI (cCR r τ 12 k m)))) (cheap g P K r cp b b' τ)) (noX) := by
  refine CM.of (lo := [some (.ref (P 12)), some (.int (iI (k))), some (.ref m), none, none, none]) (by decide) (Nat.le_of_ble_eq_true rfl) (by simp [Value.category]) rfl ?_
  intro pX eX sX mX bX tX cX AX F htab hmn
  have F : Fx pX l sX mX ([.ref (P 12), .int (iI (k)), .ref m] : List Value).toArray tX cX cX0_countForRack 6 (some .int) RX0 g AX := F
  have hM := hV.1
  have hR := hV.2.1
  have hL0 := hV.2.2.1
  have hL1 := hV.2.2.2.1
  have hL2 := hV.2.2.2.2.1
  have hS20 := hV.2.2.2.2.2.1
  have hS21 := hV.2.2.2.2.2.2.1
  have hS22 := hV.2.2.2.2.2.2.2.1
  have hS2 := hV.2.2.2.2.2.2.2.2.1
  have hn8 : 0 ≤ τ 55 0 ∧ τ 55 0 ≤ 8 := ⟨hL2.1, hL2.2.2.2.1⟩
  have hn60 : 0 ≤ τ 53 0 ∧ τ 53 0 ≤ 60 := ⟨hL0.1, hL0.2.2.2.1⟩
  have hW1 : ∀ z : Int, 0 ≤ z → z < 160 → -1 ≤ τ 13 z ∧ τ 13 z ≤ 1000000 := hW.1
  have hW2 : ∀ z : Int, 0 ≤ z → z < 8 → -1000000 ≤ τ 14 z ∧ τ 14 z ≤ 1000000 := hW.2.1
  have hW3 : ∀ z : Int, 0 ≤ z → z < 8 → -1000000 ≤ τ 15 z ∧ τ 15 z ≤ 1000000 := hW.2.2.1
  have hW5 : ∀ z : Int, 0 ≤ z → z < 8 → -1000000 ≤ τ 17 z ∧ τ 17 z ≤ 1000000 := hW.2.2.2.1
  have hW6 : ∀ z : Int, 0 ≤ z → z < 8 → -1000000 ≤ τ 18 z ∧ τ 18 z ≤ 1000000 := hW.2.2.2.2
  have hmb := hM m hm
  have hp0 := m_pw_2000 (c := τ 34 m) (f := 0) hmb.2.2.1
  have hp1 := m_pw_2000 (c := τ 34 m) (f := 1) hmb.2.2.1
  have hr9 := hR _ (hL2.2.2.2.2 k hk2.1 hk2.2).2
  have hml := hML.1 k hk2.1 hk2.2
  have hml1 : τ 14 k ≤ τ 42 (ad r 2 k) := hml.1
  have hml2 : τ 17 k ≤ τ 43 (ad r 2 k) := hml.2.1
  have hml3 : τ 18 k ≤ τ 43 (ad r 2 k) := hml.2.2
  refine v_aload_n F (pc := 0) dX0_countForRack_0 rfl ?_
  refine v_getf F (pc := 1) fd_X0_26_3 (v := .ref (P 1)) dX0_countForRack_1 (ch_12 hk) rfl ?_
  refine v_getf F (pc := 4) fd_X0_85_6 (v := .ref (P 19)) dX0_countForRack_4 (ch_1 hk) rfl ?_
  refine v_iload_n F (pc := 7) dX0_countForRack_7 rfl ?_
  refine v_callVp F (pc := 8) (As := [.int (iI (k))]) (rest := []) ci_X0_97 ct_Jx4a65c_get_915e3 cs_Jx4a65c_get_915e3 (kl_get2 l g (τ := τ) (r := r) (cp := cp) hk hL2 (k := k) (by omega) (show (k : Int) < τ 55 0 by omega)) dX0_countForRack_8 (k0 := 2) rfl rfl (ch_19 hk) rfl rfl (Nat.le_of_ble_eq_true rfl) (Nat.le_of_ble_eq_true rfl) (Nat.le_of_ble_eq_true rfl) (Nat.le_of_ble_eq_true rfl) (Nat.le_of_ble_eq_true rfl) ?_ (fun _ _ z => z.elim)
  have kq_1 : K (ad r 2 k) = 2 := (hL2.2.2.2.2 k (by omega) (show (k : Int) < τ 55 0 by omega)).2
  have kq_1b := hR _ kq_1
  refine v_castS F (pc := 11) (ci := 5) rfl tk_X0_101 dX0_countForRack_11 (ch_r hk kq_1) ?_
  refine v_astore_n F (pc := 14) (lo' := [some (.ref (P 12)), some (.int (iI (k))), some (.ref m), some (.ref (ad r 2 k)), none, none]) dX0_countForRack_14 (Nat.le_of_ble_eq_true rfl) rfl ?_
  refine v_aload_n F (pc := 15) dX0_countForRack_15 rfl ?_
  refine v_iload_n F (pc := 16) dX0_countForRack_16 rfl ?_
  refine v_aload_n F (pc := 17) dX0_countForRack_17 rfl ?_
  refine v_getf F (pc := 18) fd_X0_42_4 (v := .int (iI (τ 31 (m : Nat)))) dX0_countForRack_18 (ch_m hk hm) rfl ?_
  refine v_callVp F (pc := 21) (As := [.int (iI (k)), .int (iI (τ 31 (m : Nat)))]) (rest := []) ci_X0_165 ct_X0_countBySlots cs_X0_countBySlots (k_X0_countBySlots l g (Or.inr rfl) hk (τ := τ) (K := K) (r := r) (cp := cp) (b := b) (b' := b') hV hW k (by omega) (τ 31 (m : Nat)) (by omega)) dX0_countForRack_21 (k0 := 3) rfl rfl (ch_12 hk) rfl rfl (Nat.le_of_ble_eq_true rfl) (Nat.le_of_ble_eq_true rfl) (Nat.le_of_ble_eq_true rfl) (Nat.le_of_ble_eq_true rfl) (Nat.le_of_ble_eq_true rfl) ?_ (fun _ _ z => z.elim)
  have rg_2 := rn_rng (cEm τ 13 k) (τ 31 (m : Nat)) (s := τ 41 (ad r 2 k)) (by omega)
  refine v_istore F (pc := 24) (lo' := [some (.ref (P 12)), some (.int (iI (k))), some (.ref m), some (.ref (ad r 2 k)), some (.int (iI ((rn (cEm τ 13 k) (τ 31 (m : Nat)) (τ 41 (ad r 2 k))).1))), none]) dX0_countForRack_24 (Nat.le_of_ble_eq_true rfl) rfl ?_
  refine v_iload F (pc := 26) dX0_countForRack_26 rfl ?_
  refine v_aload_n F (pc := 28) dX0_countForRack_28 rfl ?_
  refine v_getf F (pc := 29) fd_X0_121_5 (v := .int (iI (τ 42 (ad r 2 k)))) dX0_countForRack_29 (ch_r hk kq_1) rfl ?_
  refine v_aload_n F (pc := 32) dX0_countForRack_32 rfl ?_
  refine v_getf F (pc := 33) fd_X0_15_3 (v := .ref (P 14)) dX0_countForRack_33 (ch_12 hk) rfl ?_
  refine v_iload_n F (pc := 36) dX0_countForRack_36 rfl ?_
  refine v_iald F (pc := 37) (n := 8) (f := τ 14) (z := k) dX0_countForRack_37 (ch_14 hk) (by omega) (by decide) ?_
  have bd_3 := hW2 k (by omega) (by omega)
  refine v_isub F (pc := 38) (a := τ 42 (ad r 2 k)) (b := (τ 14) k) dX0_countForRack_38 ?_
  refine v_aload_n F (pc := 39) dX0_countForRack_39 rfl ?_
  refine v_getf F (pc := 40) fd_X0_66_4 (v := .int (iI (τ 33 (m : Nat)))) dX0_countForRack_40 (ch_m hk hm) rfl ?_
  refine v_callNp F (pc := 43) (As := [.int (iI ((rn (cEm τ 13 k) (τ 31 (m : Nat)) (τ 41 (ad r 2 k))).1)), .int (iI ((τ 42 (ad r 2 k)) - ((τ 14) k))), .int (iI (τ 33 (m : Nat)))]) (rest := []) cn_X0_161 ct_X4_atMost (k_X4_atMost l g ((rn (cEm τ 13 k) (τ 31 (m : Nat)) (τ 41 (ad r 2 k))).1) ((τ 42 (ad r 2 k)) - ((τ 14) k)) (τ 33 (m : Nat)) (by omega) (by omega) (by omega)) dX0_countForRack_43 rfl rfl (Nat.le_of_ble_eq_true rfl) (Nat.le_of_ble_eq_true rfl) (Nat.le_of_ble_eq_true rfl) (Nat.le_of_ble_eq_true rfl) (Nat.le_of_ble_eq_true rfl) ?_
  have rg_4 : 0 ≤ cAM ((rn (cEm τ 13 k) (τ 31 (m : Nat)) (τ 41 (ad r 2 k))).1) ((τ 42 (ad r 2 k)) - ((τ 14) k)) (τ 33 (m : Nat)) ∧ cAM ((rn (cEm τ 13 k) (τ 31 (m : Nat)) (τ 41 (ad r 2 k))).1) ((τ 42 (ad r 2 k)) - ((τ 14) k)) (τ 33 (m : Nat)) ≤ ((rn (cEm τ 13 k) (τ 31 (m : Nat)) (τ 41 (ad r 2 k))).1) := cAM_rng (by omega) (by omega)
  refine v_istore F (pc := 46) (lo' := [some (.ref (P 12)), some (.int (iI (k))), some (.ref m), some (.ref (ad r 2 k)), some (.int (iI (cAM ((rn (cEm τ 13 k) (τ 31 (m : Nat)) (τ 41 (ad r 2 k))).1) ((τ 42 (ad r 2 k)) - ((τ 14) k)) (τ 33 (m : Nat))))), none]) dX0_countForRack_46 (Nat.le_of_ble_eq_true rfl) rfl ?_
  refine v_iconst F (pc := 48) dX0_countForRack_48 ?_
  refine v_istore F (pc := 49) (lo' := [some (.ref (P 12)), some (.int (iI (k))), some (.ref m), some (.ref (ad r 2 k)), some (.int (iI (cAM ((rn (cEm τ 13 k) (τ 31 (m : Nat)) (τ 41 (ad r 2 k))).1) ((τ 42 (ad r 2 k)) - ((τ 14) k)) (τ 33 (m : Nat))))), some (.int (iI (0)))]) dX0_countForRack_49 (Nat.le_of_ble_eq_true rfl) rfl ?_
  refine v_iload F (pc := 51) dX0_countForRack_51 rfl ?_
  refine v_iconst F (pc := 53) dX0_countForRack_53 ?_
  refine v_icmp_ge F (pc := 54) (a := 0) (b := 2) 90 dX0_countForRack_54 (by decide) (by omega) (by omega) (fun c_5 => ?_) (fun c_5 => ?_)
  · exact absurd c_5 (by decide)
  · refine v_iload F (pc := 57) dX0_countForRack_57 rfl ?_
    refine v_aload_n F (pc := 59) dX0_countForRack_59 rfl ?_
    refine v_getf F (pc := 60) fd_X0_140_5 (v := .int (iI (τ 43 (ad r 2 k)))) dX0_countForRack_60 (ch_r hk kq_1) rfl ?_
    refine v_aload_n F (pc := 63) dX0_countForRack_63 rfl ?_
    refine v_getf F (pc := 64) fd_X0_23_3 (v := .ref (P 16)) dX0_countForRack_64 (ch_12 hk) rfl ?_
    refine v_iload F (pc := 67) dX0_countForRack_67 rfl ?_
    refine v_aaldA F (pc := 69) (n := 2) (r := cout P 12) (z := 0) (q := P 17) dX0_countForRack_69 (ch_16 hk) (by omega) (by decide) rfl ?_
    refine v_iload_n F (pc := 70) dX0_countForRack_70 rfl ?_
    refine v_iald F (pc := 71) (n := 8) (f := τ 17) (z := k) dX0_countForRack_71 (ch_17 hk) (by omega) (by decide) ?_
    have bd_6 := hW5 k (by omega) (by omega)
    refine v_isub F (pc := 72) (a := τ 43 (ad r 2 k)) (b := (τ 17) k) dX0_countForRack_72 ?_
    refine v_aload_n F (pc := 73) dX0_countForRack_73 rfl ?_
    refine v_iload F (pc := 74) dX0_countForRack_74 rfl ?_
    refine v_callVp F (pc := 76) (As := [.int (iI (0))]) (rest := [.int (iI ((τ 43 (ad r 2 k)) - ((τ 17) k))), .int (iI (cAM ((rn (cEm τ 13 k) (τ 31 (m : Nat)) (τ 41 (ad r 2 k))).1) ((τ 42 (ad r 2 k)) - ((τ 14) k)) (τ 33 (m : Nat))))]) ci_X0_71 ct_X1_worstOn cs_X1_worstOn (k_X1_worstOn l g hk (τ := τ) (K := K) (r := r) (cp := cp) (b := b) (b' := b') (m := m) hm hmb 0 (by omega)) dX0_countForRack_76 (k0 := 4) rfl rfl (ch_m hk hm) rfl rfl (Nat.le_of_ble_eq_true rfl) (Nat.le_of_ble_eq_true rfl) (Nat.le_of_ble_eq_true rfl) (Nat.le_of_ble_eq_true rfl) (Nat.le_of_ble_eq_true rfl) ?_ (fun _ _ z => z.elim)
    refine v_callNp F (pc := 79) (As := [.int (iI (cAM ((rn (cEm τ 13 k) (τ 31 (m : Nat)) (τ 41 (ad r 2 k))).1) ((τ 42 (ad r 2 k)) - ((τ 14) k)) (τ 33 (m : Nat)))), .int (iI ((τ 43 (ad r 2 k)) - ((τ 17) k))), .int (iI (m_pw (τ 34 m) 0 (τ 32 m)))]) (rest := []) cn_X0_161 ct_X4_atMost (k_X4_atMost l g (cAM ((rn (cEm τ 13 k) (τ 31 (m : Nat)) (τ 41 (ad r 2 k))).1) ((τ 42 (ad r 2 k)) - ((τ 14) k)) (τ 33 (m : Nat))) ((τ 43 (ad r 2 k)) - ((τ 17) k)) (m_pw (τ 34 m) 0 (τ 32 m)) (by omega) (by omega) (by omega)) dX0_countForRack_79 rfl rfl (Nat.le_of_ble_eq_true rfl) (Nat.le_of_ble_eq_true rfl) (Nat.le_of_ble_eq_true rfl) (Nat.le_of_ble_eq_true rfl) (Nat.le_of_ble_eq_true rfl) ?_
    have rg_7 : 0 ≤ cAM (cAM ((rn (cEm τ 13 k) (τ 31 (m : Nat)) (τ 41 (ad r 2 k))).1) ((τ 42 (ad r 2 k)) - ((τ 14) k)) (τ 33 (m : Nat))) ((τ 43 (ad r 2 k)) - ((τ 17) k)) (m_pw (τ 34 m) 0 (τ 32 m)) ∧ cAM (cAM ((rn (cEm τ 13 k) (τ 31 (m : Nat)) (τ 41 (ad r 2 k))).1) ((τ 42 (ad r 2 k)) - ((τ 14) k)) (τ 33 (m : Nat))) ((τ 43 (ad r 2 k)) - ((τ 17) k)) (m_pw (τ 34 m) 0 (τ 32 m)) ≤ (cAM ((rn (cEm τ 13 k) (τ 31 (m : Nat)) (τ 41 (ad r 2 k))).1) ((τ 42 (ad r 2 k)) - ((τ 14) k)) (τ 33 (m : Nat))) := cAM_rng (by omega) (by omega)
    refine v_istore F (pc := 82) (lo' := [some (.ref (P 12)), some (.int (iI (k))), some (.ref m), some (.ref (ad r 2 k)), some (.int (iI (cAM (cAM ((rn (cEm τ 13 k) (τ 31 (m : Nat)) (τ 41 (ad r 2 k))).1) ((τ 42 (ad r 2 k)) - ((τ 14) k)) (τ 33 (m : Nat))) ((τ 43 (ad r 2 k)) - ((τ 17) k)) (m_pw (τ 34 m) 0 (τ 32 m))))), some (.int (iI (0)))]) dX0_countForRack_82 (Nat.le_of_ble_eq_true rfl) rfl ?_
    refine v_iinc F (pc := 84) (lo' := [some (.ref (P 12)), some (.int (iI (k))), some (.ref m), some (.ref (ad r 2 k)), some (.int (iI (cAM (cAM ((rn (cEm τ 13 k) (τ 31 (m : Nat)) (τ 41 (ad r 2 k))).1) ((τ 42 (ad r 2 k)) - ((τ 14) k)) (τ 33 (m : Nat))) ((τ 43 (ad r 2 k)) - ((τ 17) k)) (m_pw (τ 34 m) 0 (τ 32 m))))), some (.int (iI (1)))]) dX0_countForRack_84 rfl (Nat.le_of_ble_eq_true rfl) rfl ?_
    refine v_goto F (pc := 87) 51 dX0_countForRack_87 (by decide) ?_
    refine v_iload F (pc := 51) dX0_countForRack_51 rfl ?_
    refine v_iconst F (pc := 53) dX0_countForRack_53 ?_
    refine v_icmp_ge F (pc := 54) (a := 1) (b := 2) 90 dX0_countForRack_54 (by decide) (by omega) (by omega) (fun c_8 => ?_) (fun c_8 => ?_)
    · exact absurd c_8 (by decide)
    · refine v_iload F (pc := 57) dX0_countForRack_57 rfl ?_
      refine v_aload_n F (pc := 59) dX0_countForRack_59 rfl ?_
      refine v_getf F (pc := 60) fd_X0_140_5 (v := .int (iI (τ 43 (ad r 2 k)))) dX0_countForRack_60 (ch_r hk kq_1) rfl ?_
      refine v_aload_n F (pc := 63) dX0_countForRack_63 rfl ?_
      refine v_getf F (pc := 64) fd_X0_23_3 (v := .ref (P 16)) dX0_countForRack_64 (ch_12 hk) rfl ?_
      refine v_iload F (pc := 67) dX0_countForRack_67 rfl ?_
      refine v_aaldA F (pc := 69) (n := 2) (r := cout P 12) (z := 1) (q := P 18) dX0_countForRack_69 (ch_16 hk) (by omega) (by decide) rfl ?_
      refine v_iload_n F (pc := 70) dX0_countForRack_70 rfl ?_
      refine v_iald F (pc := 71) (n := 8) (f := τ 18) (z := k) dX0_countForRack_71 (ch_18 hk) (by omega) (by decide) ?_
      have bd_9 := hW6 k (by omega) (by omega)
      refine v_isub F (pc := 72) (a := τ 43 (ad r 2 k)) (b := (τ 18) k) dX0_countForRack_72 ?_
      refine v_aload_n F (pc := 73) dX0_countForRack_73 rfl ?_
      refine v_iload F (pc := 74) dX0_countForRack_74 rfl ?_
      refine v_callVp F (pc := 76) (As := [.int (iI (1))]) (rest := [.int (iI ((τ 43 (ad r 2 k)) - ((τ 18) k))), .int (iI (cAM (cAM ((rn (cEm τ 13 k) (τ 31 (m : Nat)) (τ 41 (ad r 2 k))).1) ((τ 42 (ad r 2 k)) - ((τ 14) k)) (τ 33 (m : Nat))) ((τ 43 (ad r 2 k)) - ((τ 17) k)) (m_pw (τ 34 m) 0 (τ 32 m))))]) ci_X0_71 ct_X1_worstOn cs_X1_worstOn (k_X1_worstOn l g hk (τ := τ) (K := K) (r := r) (cp := cp) (b := b) (b' := b') (m := m) hm hmb 1 (by omega)) dX0_countForRack_76 (k0 := 4) rfl rfl (ch_m hk hm) rfl rfl (Nat.le_of_ble_eq_true rfl) (Nat.le_of_ble_eq_true rfl) (Nat.le_of_ble_eq_true rfl) (Nat.le_of_ble_eq_true rfl) (Nat.le_of_ble_eq_true rfl) ?_ (fun _ _ z => z.elim)
      refine v_callNp F (pc := 79) (As := [.int (iI (cAM (cAM ((rn (cEm τ 13 k) (τ 31 (m : Nat)) (τ 41 (ad r 2 k))).1) ((τ 42 (ad r 2 k)) - ((τ 14) k)) (τ 33 (m : Nat))) ((τ 43 (ad r 2 k)) - ((τ 17) k)) (m_pw (τ 34 m) 0 (τ 32 m)))), .int (iI ((τ 43 (ad r 2 k)) - ((τ 18) k))), .int (iI (m_pw (τ 34 m) 1 (τ 32 m)))]) (rest := []) cn_X0_161 ct_X4_atMost (k_X4_atMost l g (cAM (cAM ((rn (cEm τ 13 k) (τ 31 (m : Nat)) (τ 41 (ad r 2 k))).1) ((τ 42 (ad r 2 k)) - ((τ 14) k)) (τ 33 (m : Nat))) ((τ 43 (ad r 2 k)) - ((τ 17) k)) (m_pw (τ 34 m) 0 (τ 32 m))) ((τ 43 (ad r 2 k)) - ((τ 18) k)) (m_pw (τ 34 m) 1 (τ 32 m)) (by omega) (by omega) (by omega)) dX0_countForRack_79 rfl rfl (Nat.le_of_ble_eq_true rfl) (Nat.le_of_ble_eq_true rfl) (Nat.le_of_ble_eq_true rfl) (Nat.le_of_ble_eq_true rfl) (Nat.le_of_ble_eq_true rfl) ?_
      have rg_10 : 0 ≤ cAM (cAM (cAM ((rn (cEm τ 13 k) (τ 31 (m : Nat)) (τ 41 (ad r 2 k))).1) ((τ 42 (ad r 2 k)) - ((τ 14) k)) (τ 33 (m : Nat))) ((τ 43 (ad r 2 k)) - ((τ 17) k)) (m_pw (τ 34 m) 0 (τ 32 m))) ((τ 43 (ad r 2 k)) - ((τ 18) k)) (m_pw (τ 34 m) 1 (τ 32 m)) ∧ cAM (cAM (cAM ((rn (cEm τ 13 k) (τ 31 (m : Nat)) (τ 41 (ad r 2 k))).1) ((τ 42 (ad r 2 k)) - ((τ 14) k)) (τ 33 (m : Nat))) ((τ 43 (ad r 2 k)) - ((τ 17) k)) (m_pw (τ 34 m) 0 (τ 32 m))) ((τ 43 (ad r 2 k)) - ((τ 18) k)) (m_pw (τ 34 m) 1 (τ 32 m)) ≤ (cAM (cAM ((rn (cEm τ 13 k) (τ 31 (m : Nat)) (τ 41 (ad r 2 k))).1) ((τ 42 (ad r 2 k)) - ((τ 14) k)) (τ 33 (m : Nat))) ((τ 43 (ad r 2 k)) - ((τ 17) k)) (m_pw (τ 34 m) 0 (τ 32 m))) := cAM_rng (by omega) (by omega)
      refine v_istore F (pc := 82) (lo' := [some (.ref (P 12)), some (.int (iI (k))), some (.ref m), some (.ref (ad r 2 k)), some (.int (iI (cAM (cAM (cAM ((rn (cEm τ 13 k) (τ 31 (m : Nat)) (τ 41 (ad r 2 k))).1) ((τ 42 (ad r 2 k)) - ((τ 14) k)) (τ 33 (m : Nat))) ((τ 43 (ad r 2 k)) - ((τ 17) k)) (m_pw (τ 34 m) 0 (τ 32 m))) ((τ 43 (ad r 2 k)) - ((τ 18) k)) (m_pw (τ 34 m) 1 (τ 32 m))))), some (.int (iI (1)))]) dX0_countForRack_82 (Nat.le_of_ble_eq_true rfl) rfl ?_
      refine v_iinc F (pc := 84) (lo' := [some (.ref (P 12)), some (.int (iI (k))), some (.ref m), some (.ref (ad r 2 k)), some (.int (iI (cAM (cAM (cAM ((rn (cEm τ 13 k) (τ 31 (m : Nat)) (τ 41 (ad r 2 k))).1) ((τ 42 (ad r 2 k)) - ((τ 14) k)) (τ 33 (m : Nat))) ((τ 43 (ad r 2 k)) - ((τ 17) k)) (m_pw (τ 34 m) 0 (τ 32 m))) ((τ 43 (ad r 2 k)) - ((τ 18) k)) (m_pw (τ 34 m) 1 (τ 32 m))))), some (.int (iI (2)))]) dX0_countForRack_84 rfl (Nat.le_of_ble_eq_true rfl) rfl ?_
      refine v_goto F (pc := 87) 51 dX0_countForRack_87 (by decide) ?_
      refine v_iload F (pc := 51) dX0_countForRack_51 rfl ?_
      refine v_iconst F (pc := 53) dX0_countForRack_53 ?_
      refine v_icmp_ge F (pc := 54) (a := 2) (b := 2) 90 dX0_countForRack_54 (by decide) (by omega) (by omega) (fun c_11 => ?_) (fun c_11 => ?_)
      · refine v_iload F (pc := 90) dX0_countForRack_90 rfl ?_
        refine v_iret F (pc := 92) (z := (iI (cAM (cAM (cAM ((rn (cEm τ 13 k) (τ 31 (m : Nat)) (τ 41 (ad r 2 k))).1) ((τ 42 (ad r 2 k)) - ((τ 14) k)) (τ 33 (m : Nat))) ((τ 43 (ad r 2 k)) - ((τ 17) k)) (m_pw (τ 34 m) 0 (τ 32 m))) ((τ 43 (ad r 2 k)) - ((τ 18) k)) (m_pw (τ 34 m) 1 (τ 32 m))))) dX0_countForRack_92 rfl rfl (Nat.le_of_ble_eq_true rfl) (Nat.le_of_ble_eq_true rfl) ?_
        exact ⟨rfl, rfl⟩
      · exact absurd c_11 (by decide)
theorem k_X0_countForRack (l : Launch) (g : gT) {w : Nat} (hw : w = 5 ∨ w = 12) {P K : Nat → Nat} {r : Nat → Int → Option Nat} {cp : Nat → Nat} {b b' : Nat} {τ : sT} (hk : cok P K cp) (hV : CV K r cp τ) (hW : Wb τ w) (hML : cML r τ w) (k : Int) (hk2 : 0 ≤ k ∧ k < τ 55 0) {m : Nat} (hm : K m = 1) : CM l g yX0_countForRack cX0_countForRack 6 (some .int) { frames := 5, cells := 0, slots := 0, locals := 109 } [.ref (P w), .int (iI (k)), .ref m] (cheap g P K r cp b b' τ) (pV (some (.int (iI (cCR r τ w k m)))) (cheap g P K r cp b b' τ)) (noX) := by
  rcases hw with rfl | rfl
  · exact k_X0_countForRack_5 l g hk hV hW hML k hk2 hm
  · exact k_X0_countForRack_12 l g hk hV hW hML k hk2 hm
-- X0_countForRow
set_option maxRecDepth 100000 in
set_option maxHeartbeats 8000000 in
theorem k_X0_countForRow_5 (l : Launch) (g : gT) {P K : Nat → Nat} {r : Nat → Int → Option Nat} {cp : Nat → Nat} {b b' : Nat} {τ : sT} (hk : cok P K cp) (hV : CV K r cp τ) (hW : Wb τ 5) (hML : cML r τ 5) (row : Int) (hrow : 0 ≤ row ∧ row < 4) {m : Nat} (hm : K m = 1) : CM l g yX0_countForRow cX0_countForRow 5 (some .int) ({ frames := 6, cells := 0, slots := 0, locals := 134 }) [.ref (P 5), .int (iI (row)), .ref m] (cheap g P K r cp b b' τ) (pV (some (.int (iI (cCW r τ 5 row m)))) (cheap g P K r cp b b' τ)) (noX) := by
  refine CM.of (lo := [some (.ref (P 5)), some (.int (iI (row))), some (.ref m), none, none]) (by decide) (Nat.le_of_ble_eq_true rfl) (by simp [Value.category]) rfl ?_
  intro pX eX sX mX bX tX cX AX F htab hmn
  have F : Fx pX l sX mX ([.ref (P 5), .int (iI (row)), .ref m] : List Value).toArray tX cX cX0_countForRow 5 (some .int) RX0 g AX := F
  have hM := hV.1
  have hR := hV.2.1
  have hL0 := hV.2.2.1
  have hL1 := hV.2.2.2.1
  have hL2 := hV.2.2.2.2.1
  have hS20 := hV.2.2.2.2.2.1
  have hS21 := hV.2.2.2.2.2.2.1
  have hS22 := hV.2.2.2.2.2.2.2.1
  have hS2 := hV.2.2.2.2.2.2.2.2.1
  have hn8 : 0 ≤ τ 55 0 ∧ τ 55 0 ≤ 8 := ⟨hL2.1, hL2.2.2.2.1⟩
  have hn60 : 0 ≤ τ 53 0 ∧ τ 53 0 ≤ 60 := ⟨hL0.1, hL0.2.2.2.1⟩
  have hW1 : ∀ z : Int, 0 ≤ z → z < 160 → -1 ≤ τ 6 z ∧ τ 6 z ≤ 1000000 := hW.1
  have hW2 : ∀ z : Int, 0 ≤ z → z < 8 → -1000000 ≤ τ 7 z ∧ τ 7 z ≤ 1000000 := hW.2.1
  have hW3 : ∀ z : Int, 0 ≤ z → z < 8 → -1000000 ≤ τ 8 z ∧ τ 8 z ≤ 1000000 := hW.2.2.1
  have hW5 : ∀ z : Int, 0 ≤ z → z < 8 → -1000000 ≤ τ 10 z ∧ τ 10 z ≤ 1000000 := hW.2.2.2.1
  have hW6 : ∀ z : Int, 0 ≤ z → z < 8 → -1000000 ≤ τ 11 z ∧ τ 11 z ≤ 1000000 := hW.2.2.2.2
  have hmb := hM m hm
  have hp0 := m_pw_2000 (c := τ 34 m) (f := 0) hmb.2.2.1
  have hp1 := m_pw_2000 (c := τ 34 m) (f := 1) hmb.2.2.1
  have hmr := hML.2 row hrow.1 hrow.2
  have hmr1 : cSum r τ 7 row ≤ τ 21 row := hmr.1
  have hmr2 : cSum r τ 8 row ≤ τ 20 row := hmr.2
  refine v_iconst F (pc := 0) dX0_countForRow_0 ?_
  refine v_istore_n F (pc := 1) (lo' := [some (.ref (P 5)), some (.int (iI (row))), some (.ref m), some (.int (iI (0))), none]) dX0_countForRow_1 (Nat.le_of_ble_eq_true rfl) rfl ?_
  refine v_iconst F (pc := 2) dX0_countForRow_2 ?_
  refine v_istore F (pc := 3) (lo' := [some (.ref (P 5)), some (.int (iI (row))), some (.ref m), some (.int (iI (0))), some (.int (iI (0)))]) dX0_countForRow_3 (Nat.le_of_ble_eq_true rfl) rfl ?_
  have LP5 : ∀ (N_ : Nat) (k : Int), (0 ≤ k) → (k ≤ (τ 55 0)) → ((τ 55 0) - k).toNat < N_ → VE pX l eX ({ frames := 6, cells := 0, slots := 0, locals := 134 }) sX mX ([.ref (P 5), .int (iI (row)), .ref m] : List Value).toArray bX tX cX 5 g AX (cheap g P K r cp b b' τ) 0 0 5 [some (.ref (P 5)), some (.int (iI (row))), some (.ref m), some (.int (iI (sm (cCt r τ 5 row m) k))), some (.int (iI (k)))] [] (pV (some (.int (iI (cCW r τ 5 row m)))) (cheap g P K r cp b b' τ)) (noX) 0 0 := by
    intro N_
    induction N_ with
    | zero => intro k _ _ hm_; exact absurd hm_ (Nat.not_lt_zero _)
    | succ N_ ih =>
      intro k hk0 hk1 hm_
      have hsr := cCt_rng (row := row) hV hW hML hm hk0 (by omega)
      refine v_iload F (pc := 5) dX0_countForRow_5 rfl ?_
      refine v_aload_n F (pc := 7) dX0_countForRow_7 rfl ?_
      refine v_getf F (pc := 8) fd_X0_26_3 (v := .ref (P 1)) dX0_countForRow_8 (ch_5 hk) rfl ?_
      refine v_getf F (pc := 11) fd_X0_85_6 (v := .ref (P 19)) dX0_countForRow_11 (ch_1 hk) rfl ?_
      refine v_callVp F (pc := 14) (As := []) (rest := [.int (iI (k))]) ci_X0_91 ct_Jx4a65c_size_8abf5 cs_Jx4a65c_size_8abf5 (k_Jx4a65c_size_8abf5 l g (n := τ 55 0) (ch_19 hk)) dX0_countForRow_14 (k0 := 2) rfl rfl (ch_19 hk) rfl rfl (Nat.le_of_ble_eq_true rfl) (Nat.le_of_ble_eq_true rfl) (Nat.le_of_ble_eq_true rfl) (Nat.le_of_ble_eq_true rfl) (Nat.le_of_ble_eq_true rfl) ?_ (fun _ _ z => z.elim)
      refine v_icmp_ge F (pc := 17) (a := k) (b := τ 55 0) 58 dX0_countForRow_17 (by decide) (by omega) (by omega) (fun c_1 => ?_) (fun c_1 => ?_)
      · have ek : k = τ 55 0 := by omega
        refine v_iload_n F (pc := 58) dX0_countForRow_58 rfl ?_
        refine v_aload_n F (pc := 59) dX0_countForRow_59 rfl ?_
        refine v_getf F (pc := 60) fd_X0_26_3 (v := .ref (P 1)) dX0_countForRow_60 (ch_5 hk) rfl ?_
        refine v_getf F (pc := 63) fd_X0_127_6 (v := .ref (P 21)) dX0_countForRow_63 (ch_1 hk) rfl ?_
        refine v_iload_n F (pc := 66) dX0_countForRow_66 rfl ?_
        refine v_iald F (pc := 67) (n := 4) (f := τ 21) (z := row) dX0_countForRow_67 (ch_21 hk) (by omega) (by decide) ?_
        have bd_2 := hS21 row (by omega) (by omega)
        refine v_aload_n F (pc := 68) dX0_countForRow_68 rfl ?_
        refine v_iload_n F (pc := 69) dX0_countForRow_69 rfl ?_
        refine v_callVp F (pc := 70) (As := [.int (iI (row))]) (rest := [.int (iI ((τ 21) row)), .int (iI (sm (cCt r τ 5 row m) k))]) ci_X0_124 ct_X0_weightInRow cs_X0_weightInRow (k_X0_weightInRow l g (Or.inl rfl) hk (τ := τ) (K := K) (r := r) (cp := cp) (b := b) (b' := b') hV row (by omega)) dX0_countForRow_70 (k0 := 3) rfl rfl (ch_5 hk) rfl rfl (Nat.le_of_ble_eq_true rfl) (Nat.le_of_ble_eq_true rfl) (Nat.le_of_ble_eq_true rfl) (Nat.le_of_ble_eq_true rfl) (Nat.le_of_ble_eq_true rfl) ?_ (fun _ _ z => z.elim)
        have rg_3 : -8000000 ≤ cSum r τ 7 row ∧ cSum r τ 7 row ≤ 8000000 := cSR_rng hn8.1 hn8.2 hW2
        refine v_isub F (pc := 73) (a := (τ 21) row) (b := cSum r τ 7 row) dX0_countForRow_73 ?_
        refine v_aload_n F (pc := 74) dX0_countForRow_74 rfl ?_
        refine v_getf F (pc := 75) fd_X0_66_4 (v := .int (iI (τ 33 (m : Nat)))) dX0_countForRow_75 (ch_m hk hm) rfl ?_
        refine v_callNp F (pc := 78) (As := [.int (iI (sm (cCt r τ 5 row m) k)), .int (iI (((τ 21) row) - (cSum r τ 7 row))), .int (iI (τ 33 (m : Nat)))]) (rest := []) cn_X0_161 ct_X4_atMost (k_X4_atMost l g (sm (cCt r τ 5 row m) k) (((τ 21) row) - (cSum r τ 7 row)) (τ 33 (m : Nat)) (by omega) (by omega) (by omega)) dX0_countForRow_78 rfl rfl (Nat.le_of_ble_eq_true rfl) (Nat.le_of_ble_eq_true rfl) (Nat.le_of_ble_eq_true rfl) (Nat.le_of_ble_eq_true rfl) (Nat.le_of_ble_eq_true rfl) ?_
        have rg_4 : 0 ≤ cAM (sm (cCt r τ 5 row m) k) (((τ 21) row) - (cSum r τ 7 row)) (τ 33 (m : Nat)) ∧ cAM (sm (cCt r τ 5 row m) k) (((τ 21) row) - (cSum r τ 7 row)) (τ 33 (m : Nat)) ≤ (sm (cCt r τ 5 row m) k) := cAM_rng (by omega) (by omega)
        refine v_istore_n F (pc := 81) (lo' := [some (.ref (P 5)), some (.int (iI (row))), some (.ref m), some (.int (iI (cAM (sm (cCt r τ 5 row m) k) (((τ 21) row) - (cSum r τ 7 row)) (τ 33 (m : Nat))))), some (.int (iI (k)))]) dX0_countForRow_81 (Nat.le_of_ble_eq_true rfl) rfl ?_
        refine v_iload_n F (pc := 82) dX0_countForRow_82 rfl ?_
        refine v_aload_n F (pc := 83) dX0_countForRow_83 rfl ?_
        refine v_getf F (pc := 84) fd_X0_26_3 (v := .ref (P 1)) dX0_countForRow_84 (ch_5 hk) rfl ?_
        refine v_getf F (pc := 87) fd_X0_133_6 (v := .ref (P 20)) dX0_countForRow_87 (ch_1 hk) rfl ?_
        refine v_iload_n F (pc := 90) dX0_countForRow_90 rfl ?_
        refine v_iald F (pc := 91) (n := 4) (f := τ 20) (z := row) dX0_countForRow_91 (ch_20 hk) (by omega) (by decide) ?_
        have bd_5 := hS20 row (by omega) (by omega)
        refine v_aload_n F (pc := 92) dX0_countForRow_92 rfl ?_
        refine v_iload_n F (pc := 93) dX0_countForRow_93 rfl ?_
        refine v_callVp F (pc := 94) (As := [.int (iI (row))]) (rest := [.int (iI ((τ 20) row)), .int (iI (cAM (sm (cCt r τ 5 row m) k) (((τ 21) row) - (cSum r τ 7 row)) (τ 33 (m : Nat))))]) ci_X0_130 ct_X0_heatInRow cs_X0_heatInRow (k_X0_heatInRow l g (Or.inl rfl) hk (τ := τ) (K := K) (r := r) (cp := cp) (b := b) (b' := b') hV row (by omega)) dX0_countForRow_94 (k0 := 3) rfl rfl (ch_5 hk) rfl rfl (Nat.le_of_ble_eq_true rfl) (Nat.le_of_ble_eq_true rfl) (Nat.le_of_ble_eq_true rfl) (Nat.le_of_ble_eq_true rfl) (Nat.le_of_ble_eq_true rfl) ?_ (fun _ _ z => z.elim)
        have rg_6 : -8000000 ≤ cSum r τ 8 row ∧ cSum r τ 8 row ≤ 8000000 := cSR_rng hn8.1 hn8.2 hW3
        refine v_isub F (pc := 97) (a := (τ 20) row) (b := cSum r τ 8 row) dX0_countForRow_97 ?_
        refine v_aload_n F (pc := 98) dX0_countForRow_98 rfl ?_
        refine v_getf F (pc := 99) fd_X0_68_4 (v := .int (iI (τ 32 (m : Nat)))) dX0_countForRow_99 (ch_m hk hm) rfl ?_
        refine v_callNp F (pc := 102) (As := [.int (iI (cAM (sm (cCt r τ 5 row m) k) (((τ 21) row) - (cSum r τ 7 row)) (τ 33 (m : Nat)))), .int (iI (((τ 20) row) - (cSum r τ 8 row))), .int (iI (τ 32 (m : Nat)))]) (rest := []) cn_X0_161 ct_X4_atMost (k_X4_atMost l g (cAM (sm (cCt r τ 5 row m) k) (((τ 21) row) - (cSum r τ 7 row)) (τ 33 (m : Nat))) (((τ 20) row) - (cSum r τ 8 row)) (τ 32 (m : Nat)) (by omega) (by omega) (by omega)) dX0_countForRow_102 rfl rfl (Nat.le_of_ble_eq_true rfl) (Nat.le_of_ble_eq_true rfl) (Nat.le_of_ble_eq_true rfl) (Nat.le_of_ble_eq_true rfl) (Nat.le_of_ble_eq_true rfl) ?_
        have rg_7 : 0 ≤ cAM (cAM (sm (cCt r τ 5 row m) k) (((τ 21) row) - (cSum r τ 7 row)) (τ 33 (m : Nat))) (((τ 20) row) - (cSum r τ 8 row)) (τ 32 (m : Nat)) ∧ cAM (cAM (sm (cCt r τ 5 row m) k) (((τ 21) row) - (cSum r τ 7 row)) (τ 33 (m : Nat))) (((τ 20) row) - (cSum r τ 8 row)) (τ 32 (m : Nat)) ≤ (cAM (sm (cCt r τ 5 row m) k) (((τ 21) row) - (cSum r τ 7 row)) (τ 33 (m : Nat))) := cAM_rng (by omega) (by omega)
        refine v_iret F (pc := 105) (z := (iI (cAM (cAM (sm (cCt r τ 5 row m) k) (((τ 21) row) - (cSum r τ 7 row)) (τ 33 (m : Nat))) (((τ 20) row) - (cSum r τ 8 row)) (τ 32 (m : Nat))))) dX0_countForRow_105 rfl rfl (Nat.le_of_ble_eq_true rfl) (Nat.le_of_ble_eq_true rfl) ?_
        exact ⟨congrArg (fun z => some (Value.int (iI z))) (by rw [ek]; rfl), rfl⟩
      · refine v_aload_n F (pc := 20) dX0_countForRow_20 rfl ?_
        refine v_getf F (pc := 21) fd_X0_26_3 (v := .ref (P 1)) dX0_countForRow_21 (ch_5 hk) rfl ?_
        refine v_getf F (pc := 24) fd_X0_85_6 (v := .ref (P 19)) dX0_countForRow_24 (ch_1 hk) rfl ?_
        refine v_iload F (pc := 27) dX0_countForRow_27 rfl ?_
        refine v_callVp F (pc := 29) (As := [.int (iI (k))]) (rest := []) ci_X0_97 ct_Jx4a65c_get_915e3 cs_Jx4a65c_get_915e3 (kl_get2 l g (τ := τ) (r := r) (cp := cp) hk hL2 (k := k) (by omega) (show (k : Int) < τ 55 0 by omega)) dX0_countForRow_29 (k0 := 2) rfl rfl (ch_19 hk) rfl rfl (Nat.le_of_ble_eq_true rfl) (Nat.le_of_ble_eq_true rfl) (Nat.le_of_ble_eq_true rfl) (Nat.le_of_ble_eq_true rfl) (Nat.le_of_ble_eq_true rfl) ?_ (fun _ _ z => z.elim)
        have kq_8 : K (ad r 2 k) = 2 := (hL2.2.2.2.2 k (by omega) (show (k : Int) < τ 55 0 by omega)).2
        have kq_8b := hR _ kq_8
        refine v_castS F (pc := 32) (ci := 5) rfl tk_X0_101 dX0_countForRow_32 (ch_r hk kq_8) ?_
        refine v_getf F (pc := 35) fd_X0_103_5 (v := .int (iI (τ 40 (ad r 2 k)))) dX0_countForRow_35 (ch_r hk kq_8) rfl ?_
        refine v_iload_n F (pc := 38) dX0_countForRow_38 rfl ?_
        refine v_icmp_ne F (pc := 39) (a := τ 40 (ad r 2 k)) (b := row) 52 dX0_countForRow_39 (by decide) (by omega) (by omega) (fun c_9 => ?_) (fun c_9 => ?_)
        · have hq9 := c_9
          refine v_iinc F (pc := 52) (lo' := [some (.ref (P 5)), some (.int (iI (row))), some (.ref m), some (.int (iI (sm (cCt r τ 5 row m) k))), some (.int (iI (k + 1)))]) dX0_countForRow_52 rfl (Nat.le_of_ble_eq_true rfl) rfl ?_
          refine v_goto F (pc := 55) 5 dX0_countForRow_55 (by decide) ?_
          have e_0 : sm (cCt r τ 5 row m) (k + 1) = sm (cCt r τ 5 row m) k := by rw [sm_s _ hk0, show cCt r τ 5 row m k = 0 from if_neg hq9]; omega
          have ih2 := ih (k + 1) (by omega) (by omega)  (by omega)
          rw [e_0] at ih2
          exact ih2
        · have hq9 := c_9
          refine v_iload_n F (pc := 42) dX0_countForRow_42 rfl ?_
          refine v_aload_n F (pc := 43) dX0_countForRow_43 rfl ?_
          refine v_iload F (pc := 44) dX0_countForRow_44 rfl ?_
          refine v_aload_n F (pc := 46) dX0_countForRow_46 rfl ?_
          refine v_callVp F (pc := 47) (As := [.int (iI (k)), .ref m]) (rest := [.int (iI (sm (cCt r τ 5 row m) k))]) ci_X0_158 ct_X0_countForRack cs_X0_countForRack (k_X0_countForRack l g (Or.inl rfl) hk (τ := τ) (K := K) (r := r) (cp := cp) (b := b) (b' := b') hV hW hML k (by omega) hm) dX0_countForRow_47 (k0 := 3) rfl rfl (ch_5 hk) rfl rfl (Nat.le_of_ble_eq_true rfl) (Nat.le_of_ble_eq_true rfl) (Nat.le_of_ble_eq_true rfl) (Nat.le_of_ble_eq_true rfl) (Nat.le_of_ble_eq_true rfl) ?_ (fun _ _ z => z.elim)
          refine v_iadd F (pc := 50) (a := sm (cCt r τ 5 row m) k) (b := cCR r τ 5 k m) dX0_countForRow_50 ?_
          refine v_istore_n F (pc := 51) (lo' := [some (.ref (P 5)), some (.int (iI (row))), some (.ref m), some (.int (iI ((sm (cCt r τ 5 row m) k) + (cCR r τ 5 k m)))), some (.int (iI (k)))]) dX0_countForRow_51 (Nat.le_of_ble_eq_true rfl) rfl ?_
          refine v_iinc F (pc := 52) (lo' := [some (.ref (P 5)), some (.int (iI (row))), some (.ref m), some (.int (iI ((sm (cCt r τ 5 row m) k) + (cCR r τ 5 k m)))), some (.int (iI (k + 1)))]) dX0_countForRow_52 rfl (Nat.le_of_ble_eq_true rfl) rfl ?_
          refine v_goto F (pc := 55) 5 dX0_countForRow_55 (by decide) ?_
          have e_0 : sm (cCt r τ 5 row m) (k + 1) = (sm (cCt r τ 5 row m) k) + (cCR r τ 5 k m) := by rw [sm_s _ hk0]; exact congrArg (fun z => sm (cCt r τ 5 row m) k + z) (if_pos hq9)
          have ih2 := ih (k + 1) (by omega) (by omega)  (by omega)
          rw [e_0] at ih2
          exact ih2
  exact LP5 _ 0 (Int.le_refl _) (by omega)  (Nat.lt_succ_self _)
-- X0_countForRow
set_option maxRecDepth 100000 in
set_option maxHeartbeats 8000000 in
theorem k_X0_countForRow_12 (l : Launch) (g : gT) {P K : Nat → Nat} {r : Nat → Int → Option Nat} {cp : Nat → Nat} {b b' : Nat} {τ : sT} (hk : cok P K cp) (hV : CV K r cp τ) (hW : Wb τ 12) (hML : cML r τ 12) (row : Int) (hrow : 0 ≤ row ∧ row < 4) {m : Nat} (hm : K m = 1) : CM l g yX0_countForRow cX0_countForRow 5 (some .int) ({ frames := 6, cells := 0, slots := 0, locals := 134 }) [.ref (P 12), .int (iI (row)), .ref m] (cheap g P K r cp b b' τ) (pV (some (.int (iI (cCW r τ 12 row m)))) (cheap g P K r cp b b' τ)) (noX) := by
  refine CM.of (lo := [some (.ref (P 12)), some (.int (iI (row))), some (.ref m), none, none]) (by decide) (Nat.le_of_ble_eq_true rfl) (by simp [Value.category]) rfl ?_
  intro pX eX sX mX bX tX cX AX F htab hmn
  have F : Fx pX l sX mX ([.ref (P 12), .int (iI (row)), .ref m] : List Value).toArray tX cX cX0_countForRow 5 (some .int) RX0 g AX := F
  have hM := hV.1
  have hR := hV.2.1
  have hL0 := hV.2.2.1
  have hL1 := hV.2.2.2.1
  have hL2 := hV.2.2.2.2.1
  have hS20 := hV.2.2.2.2.2.1
  have hS21 := hV.2.2.2.2.2.2.1
  have hS22 := hV.2.2.2.2.2.2.2.1
  have hS2 := hV.2.2.2.2.2.2.2.2.1
  have hn8 : 0 ≤ τ 55 0 ∧ τ 55 0 ≤ 8 := ⟨hL2.1, hL2.2.2.2.1⟩
  have hn60 : 0 ≤ τ 53 0 ∧ τ 53 0 ≤ 60 := ⟨hL0.1, hL0.2.2.2.1⟩
  have hW1 : ∀ z : Int, 0 ≤ z → z < 160 → -1 ≤ τ 13 z ∧ τ 13 z ≤ 1000000 := hW.1
  have hW2 : ∀ z : Int, 0 ≤ z → z < 8 → -1000000 ≤ τ 14 z ∧ τ 14 z ≤ 1000000 := hW.2.1
  have hW3 : ∀ z : Int, 0 ≤ z → z < 8 → -1000000 ≤ τ 15 z ∧ τ 15 z ≤ 1000000 := hW.2.2.1
  have hW5 : ∀ z : Int, 0 ≤ z → z < 8 → -1000000 ≤ τ 17 z ∧ τ 17 z ≤ 1000000 := hW.2.2.2.1
  have hW6 : ∀ z : Int, 0 ≤ z → z < 8 → -1000000 ≤ τ 18 z ∧ τ 18 z ≤ 1000000 := hW.2.2.2.2
  have hmb := hM m hm
  have hp0 := m_pw_2000 (c := τ 34 m) (f := 0) hmb.2.2.1
  have hp1 := m_pw_2000 (c := τ 34 m) (f := 1) hmb.2.2.1
  have hmr := hML.2 row hrow.1 hrow.2
  have hmr1 : cSum r τ 14 row ≤ τ 21 row := hmr.1
  have hmr2 : cSum r τ 15 row ≤ τ 20 row := hmr.2
  refine v_iconst F (pc := 0) dX0_countForRow_0 ?_
  refine v_istore_n F (pc := 1) (lo' := [some (.ref (P 12)), some (.int (iI (row))), some (.ref m), some (.int (iI (0))), none]) dX0_countForRow_1 (Nat.le_of_ble_eq_true rfl) rfl ?_
  refine v_iconst F (pc := 2) dX0_countForRow_2 ?_
  refine v_istore F (pc := 3) (lo' := [some (.ref (P 12)), some (.int (iI (row))), some (.ref m), some (.int (iI (0))), some (.int (iI (0)))]) dX0_countForRow_3 (Nat.le_of_ble_eq_true rfl) rfl ?_
  have LP5 : ∀ (N_ : Nat) (k : Int), (0 ≤ k) → (k ≤ (τ 55 0)) → ((τ 55 0) - k).toNat < N_ → VE pX l eX ({ frames := 6, cells := 0, slots := 0, locals := 134 }) sX mX ([.ref (P 12), .int (iI (row)), .ref m] : List Value).toArray bX tX cX 5 g AX (cheap g P K r cp b b' τ) 0 0 5 [some (.ref (P 12)), some (.int (iI (row))), some (.ref m), some (.int (iI (sm (cCt r τ 12 row m) k))), some (.int (iI (k)))] [] (pV (some (.int (iI (cCW r τ 12 row m)))) (cheap g P K r cp b b' τ)) (noX) 0 0 := by
    intro N_
    induction N_ with
    | zero => intro k _ _ hm_; exact absurd hm_ (Nat.not_lt_zero _)
    | succ N_ ih =>
      intro k hk0 hk1 hm_
      have hsr := cCt_rng (row := row) hV hW hML hm hk0 (by omega)
      refine v_iload F (pc := 5) dX0_countForRow_5 rfl ?_
      refine v_aload_n F (pc := 7) dX0_countForRow_7 rfl ?_
      refine v_getf F (pc := 8) fd_X0_26_3 (v := .ref (P 1)) dX0_countForRow_8 (ch_12 hk) rfl ?_
      refine v_getf F (pc := 11) fd_X0_85_6 (v := .ref (P 19)) dX0_countForRow_11 (ch_1 hk) rfl ?_
      refine v_callVp F (pc := 14) (As := []) (rest := [.int (iI (k))]) ci_X0_91 ct_Jx4a65c_size_8abf5 cs_Jx4a65c_size_8abf5 (k_Jx4a65c_size_8abf5 l g (n := τ 55 0) (ch_19 hk)) dX0_countForRow_14 (k0 := 2) rfl rfl (ch_19 hk) rfl rfl (Nat.le_of_ble_eq_true rfl) (Nat.le_of_ble_eq_true rfl) (Nat.le_of_ble_eq_true rfl) (Nat.le_of_ble_eq_true rfl) (Nat.le_of_ble_eq_true rfl) ?_ (fun _ _ z => z.elim)
      refine v_icmp_ge F (pc := 17) (a := k) (b := τ 55 0) 58 dX0_countForRow_17 (by decide) (by omega) (by omega) (fun c_1 => ?_) (fun c_1 => ?_)
      · have ek : k = τ 55 0 := by omega
        refine v_iload_n F (pc := 58) dX0_countForRow_58 rfl ?_
        refine v_aload_n F (pc := 59) dX0_countForRow_59 rfl ?_
        refine v_getf F (pc := 60) fd_X0_26_3 (v := .ref (P 1)) dX0_countForRow_60 (ch_12 hk) rfl ?_
        refine v_getf F (pc := 63) fd_X0_127_6 (v := .ref (P 21)) dX0_countForRow_63 (ch_1 hk) rfl ?_
        refine v_iload_n F (pc := 66) dX0_countForRow_66 rfl ?_
        refine v_iald F (pc := 67) (n := 4) (f := τ 21) (z := row) dX0_countForRow_67 (ch_21 hk) (by omega) (by decide) ?_
        have bd_2 := hS21 row (by omega) (by omega)
        refine v_aload_n F (pc := 68) dX0_countForRow_68 rfl ?_
        refine v_iload_n F (pc := 69) dX0_countForRow_69 rfl ?_
        refine v_callVp F (pc := 70) (As := [.int (iI (row))]) (rest := [.int (iI ((τ 21) row)), .int (iI (sm (cCt r τ 12 row m) k))]) ci_X0_124 ct_X0_weightInRow cs_X0_weightInRow (k_X0_weightInRow l g (Or.inr rfl) hk (τ := τ) (K := K) (r := r) (cp := cp) (b := b) (b' := b') hV row (by omega)) dX0_countForRow_70 (k0 := 3) rfl rfl (ch_12 hk) rfl rfl (Nat.le_of_ble_eq_true rfl) (Nat.le_of_ble_eq_true rfl) (Nat.le_of_ble_eq_true rfl) (Nat.le_of_ble_eq_true rfl) (Nat.le_of_ble_eq_true rfl) ?_ (fun _ _ z => z.elim)
        have rg_3 : -8000000 ≤ cSum r τ 14 row ∧ cSum r τ 14 row ≤ 8000000 := cSR_rng hn8.1 hn8.2 hW2
        refine v_isub F (pc := 73) (a := (τ 21) row) (b := cSum r τ 14 row) dX0_countForRow_73 ?_
        refine v_aload_n F (pc := 74) dX0_countForRow_74 rfl ?_
        refine v_getf F (pc := 75) fd_X0_66_4 (v := .int (iI (τ 33 (m : Nat)))) dX0_countForRow_75 (ch_m hk hm) rfl ?_
        refine v_callNp F (pc := 78) (As := [.int (iI (sm (cCt r τ 12 row m) k)), .int (iI (((τ 21) row) - (cSum r τ 14 row))), .int (iI (τ 33 (m : Nat)))]) (rest := []) cn_X0_161 ct_X4_atMost (k_X4_atMost l g (sm (cCt r τ 12 row m) k) (((τ 21) row) - (cSum r τ 14 row)) (τ 33 (m : Nat)) (by omega) (by omega) (by omega)) dX0_countForRow_78 rfl rfl (Nat.le_of_ble_eq_true rfl) (Nat.le_of_ble_eq_true rfl) (Nat.le_of_ble_eq_true rfl) (Nat.le_of_ble_eq_true rfl) (Nat.le_of_ble_eq_true rfl) ?_
        have rg_4 : 0 ≤ cAM (sm (cCt r τ 12 row m) k) (((τ 21) row) - (cSum r τ 14 row)) (τ 33 (m : Nat)) ∧ cAM (sm (cCt r τ 12 row m) k) (((τ 21) row) - (cSum r τ 14 row)) (τ 33 (m : Nat)) ≤ (sm (cCt r τ 12 row m) k) := cAM_rng (by omega) (by omega)
        refine v_istore_n F (pc := 81) (lo' := [some (.ref (P 12)), some (.int (iI (row))), some (.ref m), some (.int (iI (cAM (sm (cCt r τ 12 row m) k) (((τ 21) row) - (cSum r τ 14 row)) (τ 33 (m : Nat))))), some (.int (iI (k)))]) dX0_countForRow_81 (Nat.le_of_ble_eq_true rfl) rfl ?_
        refine v_iload_n F (pc := 82) dX0_countForRow_82 rfl ?_
        refine v_aload_n F (pc := 83) dX0_countForRow_83 rfl ?_
        refine v_getf F (pc := 84) fd_X0_26_3 (v := .ref (P 1)) dX0_countForRow_84 (ch_12 hk) rfl ?_
        refine v_getf F (pc := 87) fd_X0_133_6 (v := .ref (P 20)) dX0_countForRow_87 (ch_1 hk) rfl ?_
        refine v_iload_n F (pc := 90) dX0_countForRow_90 rfl ?_
        refine v_iald F (pc := 91) (n := 4) (f := τ 20) (z := row) dX0_countForRow_91 (ch_20 hk) (by omega) (by decide) ?_
        have bd_5 := hS20 row (by omega) (by omega)
        refine v_aload_n F (pc := 92) dX0_countForRow_92 rfl ?_
        refine v_iload_n F (pc := 93) dX0_countForRow_93 rfl ?_
        refine v_callVp F (pc := 94) (As := [.int (iI (row))]) (rest := [.int (iI ((τ 20) row)), .int (iI (cAM (sm (cCt r τ 12 row m) k) (((τ 21) row) - (cSum r τ 14 row)) (τ 33 (m : Nat))))]) ci_X0_130 ct_X0_heatInRow cs_X0_heatInRow (k_X0_heatInRow l g (Or.inr rfl) hk (τ := τ) (K := K) (r := r) (cp := cp) (b := b) (b' := b') hV row (by omega)) dX0_countForRow_94 (k0 := 3) rfl rfl (ch_12 hk) rfl rfl (Nat.le_of_ble_eq_true rfl) (Nat.le_of_ble_eq_true rfl) (Nat.le_of_ble_eq_true rfl) (Nat.le_of_ble_eq_true rfl) (Nat.le_of_ble_eq_true rfl) ?_ (fun _ _ z => z.elim)
        have rg_6 : -8000000 ≤ cSum r τ 15 row ∧ cSum r τ 15 row ≤ 8000000 := cSR_rng hn8.1 hn8.2 hW3
        refine v_isub F (pc := 97) (a := (τ 20) row) (b := cSum r τ 15 row) dX0_countForRow_97 ?_
        refine v_aload_n F (pc := 98) dX0_countForRow_98 rfl ?_
        refine v_getf F (pc := 99) fd_X0_68_4 (v := .int (iI (τ 32 (m : Nat)))) dX0_countForRow_99 (ch_m hk hm) rfl ?_
        refine v_callNp F (pc := 102) (As := [.int (iI (cAM (sm (cCt r τ 12 row m) k) (((τ 21) row) - (cSum r τ 14 row)) (τ 33 (m : Nat)))), .int (iI (((τ 20) row) - (cSum r τ 15 row))), .int (iI (τ 32 (m : Nat)))]) (rest := []) cn_X0_161 ct_X4_atMost (k_X4_atMost l g (cAM (sm (cCt r τ 12 row m) k) (((τ 21) row) - (cSum r τ 14 row)) (τ 33 (m : Nat))) (((τ 20) row) - (cSum r τ 15 row)) (τ 32 (m : Nat)) (by omega) (by omega) (by omega)) dX0_countForRow_102 rfl rfl (Nat.le_of_ble_eq_true rfl) (Nat.le_of_ble_eq_true rfl) (Nat.le_of_ble_eq_true rfl) (Nat.le_of_ble_eq_true rfl) (Nat.le_of_ble_eq_true rfl) ?_
        have rg_7 : 0 ≤ cAM (cAM (sm (cCt r τ 12 row m) k) (((τ 21) row) - (cSum r τ 14 row)) (τ 33 (m : Nat))) (((τ 20) row) - (cSum r τ 15 row)) (τ 32 (m : Nat)) ∧ cAM (cAM (sm (cCt r τ 12 row m) k) (((τ 21) row) - (cSum r τ 14 row)) (τ 33 (m : Nat))) (((τ 20) row) - (cSum r τ 15 row)) (τ 32 (m : Nat)) ≤ (cAM (sm (cCt r τ 12 row m) k) (((τ 21) row) - (cSum r τ 14 row)) (τ 33 (m : Nat))) := cAM_rng (by omega) (by omega)
        refine v_iret F (pc := 105) (z := (iI (cAM (cAM (sm (cCt r τ 12 row m) k) (((τ 21) row) - (cSum r τ 14 row)) (τ 33 (m : Nat))) (((τ 20) row) - (cSum r τ 15 row)) (τ 32 (m : Nat))))) dX0_countForRow_105 rfl rfl (Nat.le_of_ble_eq_true rfl) (Nat.le_of_ble_eq_true rfl) ?_
        exact ⟨congrArg (fun z => some (Value.int (iI z))) (by rw [ek]; rfl), rfl⟩
      · refine v_aload_n F (pc := 20) dX0_countForRow_20 rfl ?_
        refine v_getf F (pc := 21) fd_X0_26_3 (v := .ref (P 1)) dX0_countForRow_21 (ch_12 hk) rfl ?_
        refine v_getf F (pc := 24) fd_X0_85_6 (v := .ref (P 19)) dX0_countForRow_24 (ch_1 hk) rfl ?_
        refine v_iload F (pc := 27) dX0_countForRow_27 rfl ?_
        refine v_callVp F (pc := 29) (As := [.int (iI (k))]) (rest := []) ci_X0_97 ct_Jx4a65c_get_915e3 cs_Jx4a65c_get_915e3 (kl_get2 l g (τ := τ) (r := r) (cp := cp) hk hL2 (k := k) (by omega) (show (k : Int) < τ 55 0 by omega)) dX0_countForRow_29 (k0 := 2) rfl rfl (ch_19 hk) rfl rfl (Nat.le_of_ble_eq_true rfl) (Nat.le_of_ble_eq_true rfl) (Nat.le_of_ble_eq_true rfl) (Nat.le_of_ble_eq_true rfl) (Nat.le_of_ble_eq_true rfl) ?_ (fun _ _ z => z.elim)
        have kq_8 : K (ad r 2 k) = 2 := (hL2.2.2.2.2 k (by omega) (show (k : Int) < τ 55 0 by omega)).2
        have kq_8b := hR _ kq_8
        refine v_castS F (pc := 32) (ci := 5) rfl tk_X0_101 dX0_countForRow_32 (ch_r hk kq_8) ?_
        refine v_getf F (pc := 35) fd_X0_103_5 (v := .int (iI (τ 40 (ad r 2 k)))) dX0_countForRow_35 (ch_r hk kq_8) rfl ?_
        refine v_iload_n F (pc := 38) dX0_countForRow_38 rfl ?_
        refine v_icmp_ne F (pc := 39) (a := τ 40 (ad r 2 k)) (b := row) 52 dX0_countForRow_39 (by decide) (by omega) (by omega) (fun c_9 => ?_) (fun c_9 => ?_)
        · have hq9 := c_9
          refine v_iinc F (pc := 52) (lo' := [some (.ref (P 12)), some (.int (iI (row))), some (.ref m), some (.int (iI (sm (cCt r τ 12 row m) k))), some (.int (iI (k + 1)))]) dX0_countForRow_52 rfl (Nat.le_of_ble_eq_true rfl) rfl ?_
          refine v_goto F (pc := 55) 5 dX0_countForRow_55 (by decide) ?_
          have e_0 : sm (cCt r τ 12 row m) (k + 1) = sm (cCt r τ 12 row m) k := by rw [sm_s _ hk0, show cCt r τ 12 row m k = 0 from if_neg hq9]; omega
          have ih2 := ih (k + 1) (by omega) (by omega)  (by omega)
          rw [e_0] at ih2
          exact ih2
        · have hq9 := c_9
          refine v_iload_n F (pc := 42) dX0_countForRow_42 rfl ?_
          refine v_aload_n F (pc := 43) dX0_countForRow_43 rfl ?_
          refine v_iload F (pc := 44) dX0_countForRow_44 rfl ?_
          refine v_aload_n F (pc := 46) dX0_countForRow_46 rfl ?_
          refine v_callVp F (pc := 47) (As := [.int (iI (k)), .ref m]) (rest := [.int (iI (sm (cCt r τ 12 row m) k))]) ci_X0_158 ct_X0_countForRack cs_X0_countForRack (k_X0_countForRack l g (Or.inr rfl) hk (τ := τ) (K := K) (r := r) (cp := cp) (b := b) (b' := b') hV hW hML k (by omega) hm) dX0_countForRow_47 (k0 := 3) rfl rfl (ch_12 hk) rfl rfl (Nat.le_of_ble_eq_true rfl) (Nat.le_of_ble_eq_true rfl) (Nat.le_of_ble_eq_true rfl) (Nat.le_of_ble_eq_true rfl) (Nat.le_of_ble_eq_true rfl) ?_ (fun _ _ z => z.elim)
          refine v_iadd F (pc := 50) (a := sm (cCt r τ 12 row m) k) (b := cCR r τ 12 k m) dX0_countForRow_50 ?_
          refine v_istore_n F (pc := 51) (lo' := [some (.ref (P 12)), some (.int (iI (row))), some (.ref m), some (.int (iI ((sm (cCt r τ 12 row m) k) + (cCR r τ 12 k m)))), some (.int (iI (k)))]) dX0_countForRow_51 (Nat.le_of_ble_eq_true rfl) rfl ?_
          refine v_iinc F (pc := 52) (lo' := [some (.ref (P 12)), some (.int (iI (row))), some (.ref m), some (.int (iI ((sm (cCt r τ 12 row m) k) + (cCR r τ 12 k m)))), some (.int (iI (k + 1)))]) dX0_countForRow_52 rfl (Nat.le_of_ble_eq_true rfl) rfl ?_
          refine v_goto F (pc := 55) 5 dX0_countForRow_55 (by decide) ?_
          have e_0 : sm (cCt r τ 12 row m) (k + 1) = (sm (cCt r τ 12 row m) k) + (cCR r τ 12 k m) := by rw [sm_s _ hk0]; exact congrArg (fun z => sm (cCt r τ 12 row m) k + z) (if_pos hq9)
          have ih2 := ih (k + 1) (by omega) (by omega)  (by omega)
          rw [e_0] at ih2
          exact ih2
  exact LP5 _ 0 (Int.le_refl _) (by omega)  (Nat.lt_succ_self _)
theorem k_X0_countForRow (l : Launch) (g : gT) {w : Nat} (hw : w = 5 ∨ w = 12) {P K : Nat → Nat} {r : Nat → Int → Option Nat} {cp : Nat → Nat} {b b' : Nat} {τ : sT} (hk : cok P K cp) (hV : CV K r cp τ) (hW : Wb τ w) (hML : cML r τ w) (row : Int) (hrow : 0 ≤ row ∧ row < 4) {m : Nat} (hm : K m = 1) : CM l g yX0_countForRow cX0_countForRow 5 (some .int) { frames := 6, cells := 0, slots := 0, locals := 134 } [.ref (P w), .int (iI (row)), .ref m] (cheap g P K r cp b b' τ) (pV (some (.int (iI (cCW r τ w row m)))) (cheap g P K r cp b b' τ)) (noX) := by
  rcases hw with rfl | rfl
  · exact k_X0_countForRow_5 l g hk hV hW hML row hrow hm
  · exact k_X0_countForRow_12 l g hk hV hW hML row hrow hm
-- X0_firstFrom
set_option maxRecDepth 100000 in
set_option maxHeartbeats 8000000 in
theorem k_X0_firstFrom_5 (l : Launch) (g : gT) {P K : Nat → Nat} {r : Nat → Int → Option Nat} {cp : Nat → Nat} {b b' : Nat} {τ : sT} (hk : cok P K cp) (hV : CV K r cp τ) (hW : Wb τ 5) (st : Int) (hst : 0 ≤ st ∧ st ≤ 200) : CM l g yX0_firstFrom cX0_firstFrom 3 (some .int) ({ frames := 1, cells := 0, slots := 0, locals := 20 }) [.ref (P 5), .int (iI (st))] (cheap g P K r cp b b' τ) (pV (some (.int (iI (cFst τ (5 + 1) st)))) (cheap g P K r cp b b' τ)) (noX) := by
  refine CM.of (lo := [some (.ref (P 5)), some (.int (iI (st))), none]) (by decide) (Nat.le_of_ble_eq_true rfl) (by simp [Value.category]) rfl ?_
  intro pX eX sX mX bX tX cX AX F htab hmn
  have F : Fx pX l sX mX ([.ref (P 5), .int (iI (st))] : List Value).toArray tX cX cX0_firstFrom 3 (some .int) RX0 g AX := F
  have hM := hV.1
  have hR := hV.2.1
  have hL0 := hV.2.2.1
  have hL1 := hV.2.2.2.1
  have hL2 := hV.2.2.2.2.1
  have hS20 := hV.2.2.2.2.2.1
  have hS21 := hV.2.2.2.2.2.2.1
  have hS22 := hV.2.2.2.2.2.2.2.1
  have hS2 := hV.2.2.2.2.2.2.2.2.1
  have hn8 : 0 ≤ τ 55 0 ∧ τ 55 0 ≤ 8 := ⟨hL2.1, hL2.2.2.2.1⟩
  have hn60 : 0 ≤ τ 53 0 ∧ τ 53 0 ≤ 60 := ⟨hL0.1, hL0.2.2.2.1⟩
  have hW1 : ∀ z : Int, 0 ≤ z → z < 160 → -1 ≤ τ 6 z ∧ τ 6 z ≤ 1000000 := hW.1
  have hW2 : ∀ z : Int, 0 ≤ z → z < 8 → -1000000 ≤ τ 7 z ∧ τ 7 z ≤ 1000000 := hW.2.1
  have hW3 : ∀ z : Int, 0 ≤ z → z < 8 → -1000000 ≤ τ 8 z ∧ τ 8 z ≤ 1000000 := hW.2.2.1
  have hW5 : ∀ z : Int, 0 ≤ z → z < 8 → -1000000 ≤ τ 10 z ∧ τ 10 z ≤ 1000000 := hW.2.2.2.1
  have hW6 : ∀ z : Int, 0 ≤ z → z < 8 → -1000000 ≤ τ 11 z ∧ τ 11 z ≤ 1000000 := hW.2.2.2.2
  refine v_iload_n F (pc := 0) dX0_firstFrom_0 rfl ?_
  refine v_istore_n F (pc := 1) (lo' := [some (.ref (P 5)), some (.int (iI (st))), some (.int (iI (st)))]) dX0_firstFrom_1 (Nat.le_of_ble_eq_true rfl) rfl ?_
  have LP2 : ∀ (N_ : Nat) (k : Int), (0 ≤ k) → (st + k ≤ 200) → (∀ j, 0 ≤ j → j < k → decide (τ 6 (st + j) ≠ -1) = false) → (200 - k).toNat < N_ → VE pX l eX ({ frames := 1, cells := 0, slots := 0, locals := 20 }) sX mX ([.ref (P 5), .int (iI (st))] : List Value).toArray bX tX cX 3 g AX (cheap g P K r cp b b' τ) 0 0 2 [some (.ref (P 5)), some (.int (iI (st))), some (.int (iI (st + k)))] [] (pV (some (.int (iI (cFst τ (5 + 1) st)))) (cheap g P K r cp b b' τ)) (noX) 0 0 := by
    intro N_
    induction N_ with
    | zero => intro k _ _ _ hm_; exact absurd hm_ (Nat.not_lt_zero _)
    | succ N_ ih =>
      intro k hk0 hk1 hno hm_
      refine v_iload_n F (pc := 2) dX0_firstFrom_2 rfl ?_
      refine v_sipush F (pc := 3) dX0_firstFrom_3 (by decide) ?_
      refine v_icmp_ge F (pc := 6) (a := st + k) (b := 160) 32 dX0_firstFrom_6 (by decide) (by omega) (by omega) (fun c_1 => ?_) (fun c_1 => ?_)
      · refine v_iconst F (pc := 32) dX0_firstFrom_32 ?_
        refine v_iret F (pc := 33) (z := (iI (-1))) dX0_firstFrom_33 rfl rfl (Nat.le_of_ble_eq_true rfl) (Nat.le_of_ble_eq_true rfl) ?_
        have e8 : ff (fun j => decide (τ 6 (st + j) ≠ -1)) (160 - st) = -1 := ff_none (fun j q1 q2 => hno j q1 (by omega))
        exact ⟨congrArg (fun z => some (Value.int (iI z))) (by show _ = cFst τ 6 st; unfold cFst; rw [e8, if_pos rfl]), rfl⟩
      · refine v_aload_n F (pc := 9) dX0_firstFrom_9 rfl ?_
        refine v_getf F (pc := 10) fd_X0_9_3 (v := .ref (P 6)) dX0_firstFrom_10 (ch_5 hk) rfl ?_
        refine v_iload_n F (pc := 13) dX0_firstFrom_13 rfl ?_
        refine v_iald F (pc := 14) (n := 160) (f := τ 6) (z := st + k) dX0_firstFrom_14 (ch_6 hk) (by omega) (by decide) ?_
        have bd_2 := hW1 (st + k) (by omega) (by omega)
        refine v_iconst F (pc := 15) dX0_firstFrom_15 ?_
        refine v_icmp_eq F (pc := 16) (a := (τ 6) (st + k)) (b := -1) 26 dX0_firstFrom_16 (by decide) (by omega) (by omega) (fun c_3 => ?_) (fun c_3 => ?_)
        · have hq9 := c_3
          refine v_iinc F (pc := 26) (lo' := [some (.ref (P 5)), some (.int (iI (st))), some (.int (iI (st + k + 1)))]) dX0_firstFrom_26 rfl (Nat.le_of_ble_eq_true rfl) rfl ?_
          refine v_goto F (pc := 29) 2 dX0_firstFrom_29 (by decide) ?_
          exact V.to (ih (k + 1) (by omega) (by omega) (no_s hno (decide_eq_false (fun z => z hq9))) (by omega)) rfl (by rw [show st + (k + 1) = st + k + 1 by omega]) rfl
        · have hq9 := c_3
          refine v_aload_n F (pc := 19) dX0_firstFrom_19 rfl ?_
          refine v_getf F (pc := 20) fd_X0_9_3 (v := .ref (P 6)) dX0_firstFrom_20 (ch_5 hk) rfl ?_
          refine v_iload_n F (pc := 23) dX0_firstFrom_23 rfl ?_
          refine v_iald F (pc := 24) (n := 160) (f := τ 6) (z := st + k) dX0_firstFrom_24 (ch_6 hk) (by omega) (by decide) ?_
          have bd_4 := hW1 (st + k) (by omega) (by omega)
          refine v_iret F (pc := 25) (z := (iI ((τ 6) (st + k)))) dX0_firstFrom_25 rfl rfl (Nat.le_of_ble_eq_true rfl) (Nat.le_of_ble_eq_true rfl) ?_
          have e8 : ff (fun j => decide (τ 6 (st + j) ≠ -1)) (160 - st) = k := ff_at hk0 (by omega) (decide_eq_true hq9) hno
          exact ⟨congrArg (fun z => some (Value.int (iI z))) (by show _ = cFst τ 6 st; unfold cFst; rw [e8, if_neg (by omega)]), rfl⟩
  exact V.to (LP2 _ 0 (Int.le_refl 0) (by omega) no_0 (Nat.lt_succ_self _)) rfl (by rw [Int.add_zero]) rfl
-- X0_firstFrom
set_option maxRecDepth 100000 in
set_option maxHeartbeats 8000000 in
theorem k_X0_firstFrom_12 (l : Launch) (g : gT) {P K : Nat → Nat} {r : Nat → Int → Option Nat} {cp : Nat → Nat} {b b' : Nat} {τ : sT} (hk : cok P K cp) (hV : CV K r cp τ) (hW : Wb τ 12) (st : Int) (hst : 0 ≤ st ∧ st ≤ 200) : CM l g yX0_firstFrom cX0_firstFrom 3 (some .int) ({ frames := 1, cells := 0, slots := 0, locals := 20 }) [.ref (P 12), .int (iI (st))] (cheap g P K r cp b b' τ) (pV (some (.int (iI (cFst τ (12 + 1) st)))) (cheap g P K r cp b b' τ)) (noX) := by
  refine CM.of (lo := [some (.ref (P 12)), some (.int (iI (st))), none]) (by decide) (Nat.le_of_ble_eq_true rfl) (by simp [Value.category]) rfl ?_
  intro pX eX sX mX bX tX cX AX F htab hmn
  have F : Fx pX l sX mX ([.ref (P 12), .int (iI (st))] : List Value).toArray tX cX cX0_firstFrom 3 (some .int) RX0 g AX := F
  have hM := hV.1
  have hR := hV.2.1
  have hL0 := hV.2.2.1
  have hL1 := hV.2.2.2.1
  have hL2 := hV.2.2.2.2.1
  have hS20 := hV.2.2.2.2.2.1
  have hS21 := hV.2.2.2.2.2.2.1
  have hS22 := hV.2.2.2.2.2.2.2.1
  have hS2 := hV.2.2.2.2.2.2.2.2.1
  have hn8 : 0 ≤ τ 55 0 ∧ τ 55 0 ≤ 8 := ⟨hL2.1, hL2.2.2.2.1⟩
  have hn60 : 0 ≤ τ 53 0 ∧ τ 53 0 ≤ 60 := ⟨hL0.1, hL0.2.2.2.1⟩
  have hW1 : ∀ z : Int, 0 ≤ z → z < 160 → -1 ≤ τ 13 z ∧ τ 13 z ≤ 1000000 := hW.1
  have hW2 : ∀ z : Int, 0 ≤ z → z < 8 → -1000000 ≤ τ 14 z ∧ τ 14 z ≤ 1000000 := hW.2.1
  have hW3 : ∀ z : Int, 0 ≤ z → z < 8 → -1000000 ≤ τ 15 z ∧ τ 15 z ≤ 1000000 := hW.2.2.1
  have hW5 : ∀ z : Int, 0 ≤ z → z < 8 → -1000000 ≤ τ 17 z ∧ τ 17 z ≤ 1000000 := hW.2.2.2.1
  have hW6 : ∀ z : Int, 0 ≤ z → z < 8 → -1000000 ≤ τ 18 z ∧ τ 18 z ≤ 1000000 := hW.2.2.2.2
  refine v_iload_n F (pc := 0) dX0_firstFrom_0 rfl ?_
  refine v_istore_n F (pc := 1) (lo' := [some (.ref (P 12)), some (.int (iI (st))), some (.int (iI (st)))]) dX0_firstFrom_1 (Nat.le_of_ble_eq_true rfl) rfl ?_
  have LP2 : ∀ (N_ : Nat) (k : Int), (0 ≤ k) → (st + k ≤ 200) → (∀ j, 0 ≤ j → j < k → decide (τ 13 (st + j) ≠ -1) = false) → (200 - k).toNat < N_ → VE pX l eX ({ frames := 1, cells := 0, slots := 0, locals := 20 }) sX mX ([.ref (P 12), .int (iI (st))] : List Value).toArray bX tX cX 3 g AX (cheap g P K r cp b b' τ) 0 0 2 [some (.ref (P 12)), some (.int (iI (st))), some (.int (iI (st + k)))] [] (pV (some (.int (iI (cFst τ (12 + 1) st)))) (cheap g P K r cp b b' τ)) (noX) 0 0 := by
    intro N_
    induction N_ with
    | zero => intro k _ _ _ hm_; exact absurd hm_ (Nat.not_lt_zero _)
    | succ N_ ih =>
      intro k hk0 hk1 hno hm_
      refine v_iload_n F (pc := 2) dX0_firstFrom_2 rfl ?_
      refine v_sipush F (pc := 3) dX0_firstFrom_3 (by decide) ?_
      refine v_icmp_ge F (pc := 6) (a := st + k) (b := 160) 32 dX0_firstFrom_6 (by decide) (by omega) (by omega) (fun c_1 => ?_) (fun c_1 => ?_)
      · refine v_iconst F (pc := 32) dX0_firstFrom_32 ?_
        refine v_iret F (pc := 33) (z := (iI (-1))) dX0_firstFrom_33 rfl rfl (Nat.le_of_ble_eq_true rfl) (Nat.le_of_ble_eq_true rfl) ?_
        have e8 : ff (fun j => decide (τ 13 (st + j) ≠ -1)) (160 - st) = -1 := ff_none (fun j q1 q2 => hno j q1 (by omega))
        exact ⟨congrArg (fun z => some (Value.int (iI z))) (by show _ = cFst τ 13 st; unfold cFst; rw [e8, if_pos rfl]), rfl⟩
      · refine v_aload_n F (pc := 9) dX0_firstFrom_9 rfl ?_
        refine v_getf F (pc := 10) fd_X0_9_3 (v := .ref (P 13)) dX0_firstFrom_10 (ch_12 hk) rfl ?_
        refine v_iload_n F (pc := 13) dX0_firstFrom_13 rfl ?_
        refine v_iald F (pc := 14) (n := 160) (f := τ 13) (z := st + k) dX0_firstFrom_14 (ch_13 hk) (by omega) (by decide) ?_
        have bd_2 := hW1 (st + k) (by omega) (by omega)
        refine v_iconst F (pc := 15) dX0_firstFrom_15 ?_
        refine v_icmp_eq F (pc := 16) (a := (τ 13) (st + k)) (b := -1) 26 dX0_firstFrom_16 (by decide) (by omega) (by omega) (fun c_3 => ?_) (fun c_3 => ?_)
        · have hq9 := c_3
          refine v_iinc F (pc := 26) (lo' := [some (.ref (P 12)), some (.int (iI (st))), some (.int (iI (st + k + 1)))]) dX0_firstFrom_26 rfl (Nat.le_of_ble_eq_true rfl) rfl ?_
          refine v_goto F (pc := 29) 2 dX0_firstFrom_29 (by decide) ?_
          exact V.to (ih (k + 1) (by omega) (by omega) (no_s hno (decide_eq_false (fun z => z hq9))) (by omega)) rfl (by rw [show st + (k + 1) = st + k + 1 by omega]) rfl
        · have hq9 := c_3
          refine v_aload_n F (pc := 19) dX0_firstFrom_19 rfl ?_
          refine v_getf F (pc := 20) fd_X0_9_3 (v := .ref (P 13)) dX0_firstFrom_20 (ch_12 hk) rfl ?_
          refine v_iload_n F (pc := 23) dX0_firstFrom_23 rfl ?_
          refine v_iald F (pc := 24) (n := 160) (f := τ 13) (z := st + k) dX0_firstFrom_24 (ch_13 hk) (by omega) (by decide) ?_
          have bd_4 := hW1 (st + k) (by omega) (by omega)
          refine v_iret F (pc := 25) (z := (iI ((τ 13) (st + k)))) dX0_firstFrom_25 rfl rfl (Nat.le_of_ble_eq_true rfl) (Nat.le_of_ble_eq_true rfl) ?_
          have e8 : ff (fun j => decide (τ 13 (st + j) ≠ -1)) (160 - st) = k := ff_at hk0 (by omega) (decide_eq_true hq9) hno
          exact ⟨congrArg (fun z => some (Value.int (iI z))) (by show _ = cFst τ 13 st; unfold cFst; rw [e8, if_neg (by omega)]), rfl⟩
  exact V.to (LP2 _ 0 (Int.le_refl 0) (by omega) no_0 (Nat.lt_succ_self _)) rfl (by rw [Int.add_zero]) rfl
theorem k_X0_firstFrom (l : Launch) (g : gT) {w : Nat} (hw : w = 5 ∨ w = 12) {P K : Nat → Nat} {r : Nat → Int → Option Nat} {cp : Nat → Nat} {b b' : Nat} {τ : sT} (hk : cok P K cp) (hV : CV K r cp τ) (hW : Wb τ w) (st : Int) (hst : 0 ≤ st ∧ st ≤ 200) : CM l g yX0_firstFrom cX0_firstFrom 3 (some .int) { frames := 1, cells := 0, slots := 0, locals := 20 } [.ref (P w), .int (iI (st))] (cheap g P K r cp b b' τ) (pV (some (.int (iI (cFst τ (w + 1) st)))) (cheap g P K r cp b b' τ)) (noX) := by
  rcases hw with rfl | rfl
  · exact k_X0_firstFrom_5 l g hk hV hW st hst
  · exact k_X0_firstFrom_12 l g hk hV hW st hst
-- X0_bearsCords
set_option maxRecDepth 100000 in
set_option maxHeartbeats 8000000 in
theorem k_X0_bearsCords_5 (l : Launch) (g : gT) {P K : Nat → Nat} {r : Nat → Int → Option Nat} {cp : Nat → Nat} {b b' : Nat} {τ : sT} (hk : cok P K cp) (hV : CV K r cp τ) (hW : Wb τ 5) {m : Nat} (hm : K m = 1) (c : Int) (hc : 0 ≤ c ∧ c ≤ 2) (hcl : 0 ≤ τ 35 m ∧ τ 35 m / 20 < τ 55 0) : CM l g yX0_bearsCords cX0_bearsCords 4 (some .boolean) ({ frames := 5, cells := 0, slots := 0, locals := 107 }) [.ref (P 5), .ref m, .int (iI (c))] (cheap g P K r cp b b' τ) (pV (some (.int (iI (bI (cBC r τ 5 m c))))) (cheap g P K r cp b b' τ)) (noX) := by
  refine CM.of (lo := [some (.ref (P 5)), some (.ref m), some (.int (iI (c))), none]) (by decide) (Nat.le_of_ble_eq_true rfl) (by simp [Value.category]) rfl ?_
  intro pX eX sX mX bX tX cX AX F htab hmn
  have F : Fx pX l sX mX ([.ref (P 5), .ref m, .int (iI (c))] : List Value).toArray tX cX cX0_bearsCords 4 (some .boolean) RX0 g AX := F
  have hM := hV.1
  have hR := hV.2.1
  have hL0 := hV.2.2.1
  have hL1 := hV.2.2.2.1
  have hL2 := hV.2.2.2.2.1
  have hS20 := hV.2.2.2.2.2.1
  have hS21 := hV.2.2.2.2.2.2.1
  have hS22 := hV.2.2.2.2.2.2.2.1
  have hS2 := hV.2.2.2.2.2.2.2.2.1
  have hn8 : 0 ≤ τ 55 0 ∧ τ 55 0 ≤ 8 := ⟨hL2.1, hL2.2.2.2.1⟩
  have hn60 : 0 ≤ τ 53 0 ∧ τ 53 0 ≤ 60 := ⟨hL0.1, hL0.2.2.2.1⟩
  have hW1 : ∀ z : Int, 0 ≤ z → z < 160 → -1 ≤ τ 6 z ∧ τ 6 z ≤ 1000000 := hW.1
  have hW2 : ∀ z : Int, 0 ≤ z → z < 8 → -1000000 ≤ τ 7 z ∧ τ 7 z ≤ 1000000 := hW.2.1
  have hW3 : ∀ z : Int, 0 ≤ z → z < 8 → -1000000 ≤ τ 8 z ∧ τ 8 z ≤ 1000000 := hW.2.2.1
  have hW5 : ∀ z : Int, 0 ≤ z → z < 8 → -1000000 ≤ τ 10 z ∧ τ 10 z ≤ 1000000 := hW.2.2.2.1
  have hW6 : ∀ z : Int, 0 ≤ z → z < 8 → -1000000 ≤ τ 11 z ∧ τ 11 z ≤ 1000000 := hW.2.2.2.2
  have hmb := hM m hm
  have hp0 := m_pw_2000 (c := τ 34 m) (f := 0) hmb.2.2.1
  have hp1 := m_pw_2000 (c := τ 34 m) (f := 1) hmb.2.2.1
  have hp2 := m_pw_2000 (c := c) (f := 0) hmb.2.2.1
  have hp3 := m_pw_2000 (c := c) (f := 1) hmb.2.2.1
  refine v_aload_n F (pc := 0) dX0_bearsCords_0 rfl ?_
  refine v_getf F (pc := 1) fd_X0_63_4 (v := .int (iI (τ 35 (m : Nat)))) dX0_bearsCords_1 (ch_m hk hm) rfl ?_
  refine v_callNp F (pc := 4) (As := [.int (iI (τ 35 (m : Nat)))]) (rest := []) cn_X0_55 ct_X4_rackOfCell (k_X4_rackOfCell l g (τ 35 (m : Nat)) (by omega)) dX0_bearsCords_4 rfl rfl (Nat.le_of_ble_eq_true rfl) (Nat.le_of_ble_eq_true rfl) (Nat.le_of_ble_eq_true rfl) (Nat.le_of_ble_eq_true rfl) (Nat.le_of_ble_eq_true rfl) ?_
  refine v_istore_n F (pc := 7) (lo' := [some (.ref (P 5)), some (.ref m), some (.int (iI (c))), some (.int (iI ((τ 35 (m : Nat)) / 20)))]) dX0_bearsCords_7 (Nat.le_of_ble_eq_true rfl) rfl ?_
  refine v_aload_n F (pc := 8) dX0_bearsCords_8 rfl ?_
  refine v_iload_n F (pc := 9) dX0_bearsCords_9 rfl ?_
  refine v_iconst F (pc := 10) dX0_bearsCords_10 ?_
  refine v_aload_n F (pc := 11) dX0_bearsCords_11 rfl ?_
  refine v_iconst F (pc := 12) dX0_bearsCords_12 ?_
  refine v_iload_n F (pc := 13) dX0_bearsCords_13 rfl ?_
  refine v_callVp F (pc := 14) (As := [.int (iI (0)), .int (iI (c))]) (rest := [.int (iI (0)), .int (iI ((τ 35 (m : Nat)) / 20)), .ref (P 5)]) ci_X0_74 ct_X1_worstWith cs_X1_worstWith (k_X1_worstWith l g hk (τ := τ) (K := K) (r := r) (cp := cp) (b := b) (b' := b') (m := m) hm hmb 0 c (by omega) (by omega)) dX0_bearsCords_14 (k0 := 4) rfl rfl (ch_m hk hm) rfl rfl (Nat.le_of_ble_eq_true rfl) (Nat.le_of_ble_eq_true rfl) (Nat.le_of_ble_eq_true rfl) (Nat.le_of_ble_eq_true rfl) (Nat.le_of_ble_eq_true rfl) ?_ (fun _ _ z => z.elim)
  refine v_aload_n F (pc := 17) dX0_bearsCords_17 rfl ?_
  refine v_iconst F (pc := 18) dX0_bearsCords_18 ?_
  refine v_callVp F (pc := 19) (As := [.int (iI (0))]) (rest := [.int (iI (m_pw c 0 (τ 32 m))), .int (iI (0)), .int (iI ((τ 35 (m : Nat)) / 20)), .ref (P 5)]) ci_X0_71 ct_X1_worstOn cs_X1_worstOn (k_X1_worstOn l g hk (τ := τ) (K := K) (r := r) (cp := cp) (b := b) (b' := b') (m := m) hm hmb 0 (by omega)) dX0_bearsCords_19 (k0 := 4) rfl rfl (ch_m hk hm) rfl rfl (Nat.le_of_ble_eq_true rfl) (Nat.le_of_ble_eq_true rfl) (Nat.le_of_ble_eq_true rfl) (Nat.le_of_ble_eq_true rfl) (Nat.le_of_ble_eq_true rfl) ?_ (fun _ _ z => z.elim)
  refine v_isub F (pc := 22) (a := m_pw c 0 (τ 32 m)) (b := m_pw (τ 34 m) 0 (τ 32 m)) dX0_bearsCords_22 ?_
  refine v_callVp F (pc := 23) (As := [.int (iI ((τ 35 (m : Nat)) / 20)), .int (iI (0)), .int (iI ((m_pw c 0 (τ 32 m)) - (m_pw (τ 34 m) 0 (τ 32 m))))]) (rest := []) ci_X0_136 ct_X0_bearsMore cs_X0_bearsMore (k_X0_bearsMore l g (Or.inl rfl) hk (τ := τ) (K := K) (r := r) (cp := cp) (b := b) (b' := b') hV hW ((τ 35 (m : Nat)) / 20) (by omega) 0 (by omega) ((m_pw c 0 (τ 32 m)) - (m_pw (τ 34 m) 0 (τ 32 m))) (by omega)) dX0_bearsCords_23 (k0 := 3) rfl rfl (ch_5 hk) rfl rfl (Nat.le_of_ble_eq_true rfl) (Nat.le_of_ble_eq_true rfl) (Nat.le_of_ble_eq_true rfl) (Nat.le_of_ble_eq_true rfl) (Nat.le_of_ble_eq_true rfl) ?_ (fun _ _ z => z.elim)
  refine v_if_eqB F (pc := 26) (b := (cBM r τ 10 ((τ 35 (m : Nat)) / 20) 0 ((m_pw c 0 (τ 32 m)) - (m_pw (τ 34 m) 0 (τ 32 m))))) 54 dX0_bearsCords_26 (by decide) (fun c_1 => ?_) (fun c_1 => ?_)
  · refine v_iconst F (pc := 54) dX0_bearsCords_54 ?_
    refine v_iret F (pc := 55) (z := (iI (0))) dX0_bearsCords_55 rfl (by first | rfl | exact nar_bI _ | decide) (Nat.le_of_ble_eq_true rfl) (Nat.le_of_ble_eq_true rfl) ?_
    exact ⟨congrArg (fun z => some (Value.int (iI z))) (show (0 : Int) = bI (cBC r τ 5 m c) by simp only [cBC]; simp_all [bI]), rfl⟩
  · refine v_aload_n F (pc := 29) dX0_bearsCords_29 rfl ?_
    refine v_iload_n F (pc := 30) dX0_bearsCords_30 rfl ?_
    refine v_iconst F (pc := 31) dX0_bearsCords_31 ?_
    refine v_aload_n F (pc := 32) dX0_bearsCords_32 rfl ?_
    refine v_iconst F (pc := 33) dX0_bearsCords_33 ?_
    refine v_iload_n F (pc := 34) dX0_bearsCords_34 rfl ?_
    refine v_callVp F (pc := 35) (As := [.int (iI (1)), .int (iI (c))]) (rest := [.int (iI (1)), .int (iI ((τ 35 (m : Nat)) / 20)), .ref (P 5)]) ci_X0_74 ct_X1_worstWith cs_X1_worstWith (k_X1_worstWith l g hk (τ := τ) (K := K) (r := r) (cp := cp) (b := b) (b' := b') (m := m) hm hmb 1 c (by omega) (by omega)) dX0_bearsCords_35 (k0 := 4) rfl rfl (ch_m hk hm) rfl rfl (Nat.le_of_ble_eq_true rfl) (Nat.le_of_ble_eq_true rfl) (Nat.le_of_ble_eq_true rfl) (Nat.le_of_ble_eq_true rfl) (Nat.le_of_ble_eq_true rfl) ?_ (fun _ _ z => z.elim)
    refine v_aload_n F (pc := 38) dX0_bearsCords_38 rfl ?_
    refine v_iconst F (pc := 39) dX0_bearsCords_39 ?_
    refine v_callVp F (pc := 40) (As := [.int (iI (1))]) (rest := [.int (iI (m_pw c 1 (τ 32 m))), .int (iI (1)), .int (iI ((τ 35 (m : Nat)) / 20)), .ref (P 5)]) ci_X0_71 ct_X1_worstOn cs_X1_worstOn (k_X1_worstOn l g hk (τ := τ) (K := K) (r := r) (cp := cp) (b := b) (b' := b') (m := m) hm hmb 1 (by omega)) dX0_bearsCords_40 (k0 := 4) rfl rfl (ch_m hk hm) rfl rfl (Nat.le_of_ble_eq_true rfl) (Nat.le_of_ble_eq_true rfl) (Nat.le_of_ble_eq_true rfl) (Nat.le_of_ble_eq_true rfl) (Nat.le_of_ble_eq_true rfl) ?_ (fun _ _ z => z.elim)
    refine v_isub F (pc := 43) (a := m_pw c 1 (τ 32 m)) (b := m_pw (τ 34 m) 1 (τ 32 m)) dX0_bearsCords_43 ?_
    refine v_callVp F (pc := 44) (As := [.int (iI ((τ 35 (m : Nat)) / 20)), .int (iI (1)), .int (iI ((m_pw c 1 (τ 32 m)) - (m_pw (τ 34 m) 1 (τ 32 m))))]) (rest := []) ci_X0_136 ct_X0_bearsMore cs_X0_bearsMore (k_X0_bearsMore l g (Or.inl rfl) hk (τ := τ) (K := K) (r := r) (cp := cp) (b := b) (b' := b') hV hW ((τ 35 (m : Nat)) / 20) (by omega) 1 (by omega) ((m_pw c 1 (τ 32 m)) - (m_pw (τ 34 m) 1 (τ 32 m))) (by omega)) dX0_bearsCords_44 (k0 := 3) rfl rfl (ch_5 hk) rfl rfl (Nat.le_of_ble_eq_true rfl) (Nat.le_of_ble_eq_true rfl) (Nat.le_of_ble_eq_true rfl) (Nat.le_of_ble_eq_true rfl) (Nat.le_of_ble_eq_true rfl) ?_ (fun _ _ z => z.elim)
    refine v_if_eqB F (pc := 47) (b := (cBM r τ 11 ((τ 35 (m : Nat)) / 20) 1 ((m_pw c 1 (τ 32 m)) - (m_pw (τ 34 m) 1 (τ 32 m))))) 54 dX0_bearsCords_47 (by decide) (fun c_2 => ?_) (fun c_2 => ?_)
    · refine v_iconst F (pc := 54) dX0_bearsCords_54 ?_
      refine v_iret F (pc := 55) (z := (iI (0))) dX0_bearsCords_55 rfl (by first | rfl | exact nar_bI _ | decide) (Nat.le_of_ble_eq_true rfl) (Nat.le_of_ble_eq_true rfl) ?_
      exact ⟨congrArg (fun z => some (Value.int (iI z))) (show (0 : Int) = bI (cBC r τ 5 m c) by simp only [cBC]; simp_all [bI]), rfl⟩
    · refine v_iconst F (pc := 50) dX0_bearsCords_50 ?_
      refine v_goto F (pc := 51) 55 dX0_bearsCords_51 (by decide) ?_
      refine v_iret F (pc := 55) (z := (iI (1))) dX0_bearsCords_55 rfl (by first | rfl | exact nar_bI _ | decide) (Nat.le_of_ble_eq_true rfl) (Nat.le_of_ble_eq_true rfl) ?_
      exact ⟨congrArg (fun z => some (Value.int (iI z))) (show (1 : Int) = bI (cBC r τ 5 m c) by simp only [cBC]; simp_all [bI]), rfl⟩
-- X0_bearsCords
set_option maxRecDepth 100000 in
set_option maxHeartbeats 8000000 in
theorem k_X0_bearsCords_12 (l : Launch) (g : gT) {P K : Nat → Nat} {r : Nat → Int → Option Nat} {cp : Nat → Nat} {b b' : Nat} {τ : sT} (hk : cok P K cp) (hV : CV K r cp τ) (hW : Wb τ 12) {m : Nat} (hm : K m = 1) (c : Int) (hc : 0 ≤ c ∧ c ≤ 2) (hcl : 0 ≤ τ 35 m ∧ τ 35 m / 20 < τ 55 0) : CM l g yX0_bearsCords cX0_bearsCords 4 (some .boolean) ({ frames := 5, cells := 0, slots := 0, locals := 107 }) [.ref (P 12), .ref m, .int (iI (c))] (cheap g P K r cp b b' τ) (pV (some (.int (iI (bI (cBC r τ 12 m c))))) (cheap g P K r cp b b' τ)) (noX) := by
  refine CM.of (lo := [some (.ref (P 12)), some (.ref m), some (.int (iI (c))), none]) (by decide) (Nat.le_of_ble_eq_true rfl) (by simp [Value.category]) rfl ?_
  intro pX eX sX mX bX tX cX AX F htab hmn
  have F : Fx pX l sX mX ([.ref (P 12), .ref m, .int (iI (c))] : List Value).toArray tX cX cX0_bearsCords 4 (some .boolean) RX0 g AX := F
  have hM := hV.1
  have hR := hV.2.1
  have hL0 := hV.2.2.1
  have hL1 := hV.2.2.2.1
  have hL2 := hV.2.2.2.2.1
  have hS20 := hV.2.2.2.2.2.1
  have hS21 := hV.2.2.2.2.2.2.1
  have hS22 := hV.2.2.2.2.2.2.2.1
  have hS2 := hV.2.2.2.2.2.2.2.2.1
  have hn8 : 0 ≤ τ 55 0 ∧ τ 55 0 ≤ 8 := ⟨hL2.1, hL2.2.2.2.1⟩
  have hn60 : 0 ≤ τ 53 0 ∧ τ 53 0 ≤ 60 := ⟨hL0.1, hL0.2.2.2.1⟩
  have hW1 : ∀ z : Int, 0 ≤ z → z < 160 → -1 ≤ τ 13 z ∧ τ 13 z ≤ 1000000 := hW.1
  have hW2 : ∀ z : Int, 0 ≤ z → z < 8 → -1000000 ≤ τ 14 z ∧ τ 14 z ≤ 1000000 := hW.2.1
  have hW3 : ∀ z : Int, 0 ≤ z → z < 8 → -1000000 ≤ τ 15 z ∧ τ 15 z ≤ 1000000 := hW.2.2.1
  have hW5 : ∀ z : Int, 0 ≤ z → z < 8 → -1000000 ≤ τ 17 z ∧ τ 17 z ≤ 1000000 := hW.2.2.2.1
  have hW6 : ∀ z : Int, 0 ≤ z → z < 8 → -1000000 ≤ τ 18 z ∧ τ 18 z ≤ 1000000 := hW.2.2.2.2
  have hmb := hM m hm
  have hp0 := m_pw_2000 (c := τ 34 m) (f := 0) hmb.2.2.1
  have hp1 := m_pw_2000 (c := τ 34 m) (f := 1) hmb.2.2.1
  have hp2 := m_pw_2000 (c := c) (f := 0) hmb.2.2.1
  have hp3 := m_pw_2000 (c := c) (f := 1) hmb.2.2.1
  refine v_aload_n F (pc := 0) dX0_bearsCords_0 rfl ?_
  refine v_getf F (pc := 1) fd_X0_63_4 (v := .int (iI (τ 35 (m : Nat)))) dX0_bearsCords_1 (ch_m hk hm) rfl ?_
  refine v_callNp F (pc := 4) (As := [.int (iI (τ 35 (m : Nat)))]) (rest := []) cn_X0_55 ct_X4_rackOfCell (k_X4_rackOfCell l g (τ 35 (m : Nat)) (by omega)) dX0_bearsCords_4 rfl rfl (Nat.le_of_ble_eq_true rfl) (Nat.le_of_ble_eq_true rfl) (Nat.le_of_ble_eq_true rfl) (Nat.le_of_ble_eq_true rfl) (Nat.le_of_ble_eq_true rfl) ?_
  refine v_istore_n F (pc := 7) (lo' := [some (.ref (P 12)), some (.ref m), some (.int (iI (c))), some (.int (iI ((τ 35 (m : Nat)) / 20)))]) dX0_bearsCords_7 (Nat.le_of_ble_eq_true rfl) rfl ?_
  refine v_aload_n F (pc := 8) dX0_bearsCords_8 rfl ?_
  refine v_iload_n F (pc := 9) dX0_bearsCords_9 rfl ?_
  refine v_iconst F (pc := 10) dX0_bearsCords_10 ?_
  refine v_aload_n F (pc := 11) dX0_bearsCords_11 rfl ?_
  refine v_iconst F (pc := 12) dX0_bearsCords_12 ?_
  refine v_iload_n F (pc := 13) dX0_bearsCords_13 rfl ?_
  refine v_callVp F (pc := 14) (As := [.int (iI (0)), .int (iI (c))]) (rest := [.int (iI (0)), .int (iI ((τ 35 (m : Nat)) / 20)), .ref (P 12)]) ci_X0_74 ct_X1_worstWith cs_X1_worstWith (k_X1_worstWith l g hk (τ := τ) (K := K) (r := r) (cp := cp) (b := b) (b' := b') (m := m) hm hmb 0 c (by omega) (by omega)) dX0_bearsCords_14 (k0 := 4) rfl rfl (ch_m hk hm) rfl rfl (Nat.le_of_ble_eq_true rfl) (Nat.le_of_ble_eq_true rfl) (Nat.le_of_ble_eq_true rfl) (Nat.le_of_ble_eq_true rfl) (Nat.le_of_ble_eq_true rfl) ?_ (fun _ _ z => z.elim)
  refine v_aload_n F (pc := 17) dX0_bearsCords_17 rfl ?_
  refine v_iconst F (pc := 18) dX0_bearsCords_18 ?_
  refine v_callVp F (pc := 19) (As := [.int (iI (0))]) (rest := [.int (iI (m_pw c 0 (τ 32 m))), .int (iI (0)), .int (iI ((τ 35 (m : Nat)) / 20)), .ref (P 12)]) ci_X0_71 ct_X1_worstOn cs_X1_worstOn (k_X1_worstOn l g hk (τ := τ) (K := K) (r := r) (cp := cp) (b := b) (b' := b') (m := m) hm hmb 0 (by omega)) dX0_bearsCords_19 (k0 := 4) rfl rfl (ch_m hk hm) rfl rfl (Nat.le_of_ble_eq_true rfl) (Nat.le_of_ble_eq_true rfl) (Nat.le_of_ble_eq_true rfl) (Nat.le_of_ble_eq_true rfl) (Nat.le_of_ble_eq_true rfl) ?_ (fun _ _ z => z.elim)
  refine v_isub F (pc := 22) (a := m_pw c 0 (τ 32 m)) (b := m_pw (τ 34 m) 0 (τ 32 m)) dX0_bearsCords_22 ?_
  refine v_callVp F (pc := 23) (As := [.int (iI ((τ 35 (m : Nat)) / 20)), .int (iI (0)), .int (iI ((m_pw c 0 (τ 32 m)) - (m_pw (τ 34 m) 0 (τ 32 m))))]) (rest := []) ci_X0_136 ct_X0_bearsMore cs_X0_bearsMore (k_X0_bearsMore l g (Or.inr rfl) hk (τ := τ) (K := K) (r := r) (cp := cp) (b := b) (b' := b') hV hW ((τ 35 (m : Nat)) / 20) (by omega) 0 (by omega) ((m_pw c 0 (τ 32 m)) - (m_pw (τ 34 m) 0 (τ 32 m))) (by omega)) dX0_bearsCords_23 (k0 := 3) rfl rfl (ch_12 hk) rfl rfl (Nat.le_of_ble_eq_true rfl) (Nat.le_of_ble_eq_true rfl) (Nat.le_of_ble_eq_true rfl) (Nat.le_of_ble_eq_true rfl) (Nat.le_of_ble_eq_true rfl) ?_ (fun _ _ z => z.elim)
  refine v_if_eqB F (pc := 26) (b := (cBM r τ 17 ((τ 35 (m : Nat)) / 20) 0 ((m_pw c 0 (τ 32 m)) - (m_pw (τ 34 m) 0 (τ 32 m))))) 54 dX0_bearsCords_26 (by decide) (fun c_1 => ?_) (fun c_1 => ?_)
  · refine v_iconst F (pc := 54) dX0_bearsCords_54 ?_
    refine v_iret F (pc := 55) (z := (iI (0))) dX0_bearsCords_55 rfl (by first | rfl | exact nar_bI _ | decide) (Nat.le_of_ble_eq_true rfl) (Nat.le_of_ble_eq_true rfl) ?_
    exact ⟨congrArg (fun z => some (Value.int (iI z))) (show (0 : Int) = bI (cBC r τ 12 m c) by simp only [cBC]; simp_all [bI]), rfl⟩
  · refine v_aload_n F (pc := 29) dX0_bearsCords_29 rfl ?_
    refine v_iload_n F (pc := 30) dX0_bearsCords_30 rfl ?_
    refine v_iconst F (pc := 31) dX0_bearsCords_31 ?_
    refine v_aload_n F (pc := 32) dX0_bearsCords_32 rfl ?_
    refine v_iconst F (pc := 33) dX0_bearsCords_33 ?_
    refine v_iload_n F (pc := 34) dX0_bearsCords_34 rfl ?_
    refine v_callVp F (pc := 35) (As := [.int (iI (1)), .int (iI (c))]) (rest := [.int (iI (1)), .int (iI ((τ 35 (m : Nat)) / 20)), .ref (P 12)]) ci_X0_74 ct_X1_worstWith cs_X1_worstWith (k_X1_worstWith l g hk (τ := τ) (K := K) (r := r) (cp := cp) (b := b) (b' := b') (m := m) hm hmb 1 c (by omega) (by omega)) dX0_bearsCords_35 (k0 := 4) rfl rfl (ch_m hk hm) rfl rfl (Nat.le_of_ble_eq_true rfl) (Nat.le_of_ble_eq_true rfl) (Nat.le_of_ble_eq_true rfl) (Nat.le_of_ble_eq_true rfl) (Nat.le_of_ble_eq_true rfl) ?_ (fun _ _ z => z.elim)
    refine v_aload_n F (pc := 38) dX0_bearsCords_38 rfl ?_
    refine v_iconst F (pc := 39) dX0_bearsCords_39 ?_
    refine v_callVp F (pc := 40) (As := [.int (iI (1))]) (rest := [.int (iI (m_pw c 1 (τ 32 m))), .int (iI (1)), .int (iI ((τ 35 (m : Nat)) / 20)), .ref (P 12)]) ci_X0_71 ct_X1_worstOn cs_X1_worstOn (k_X1_worstOn l g hk (τ := τ) (K := K) (r := r) (cp := cp) (b := b) (b' := b') (m := m) hm hmb 1 (by omega)) dX0_bearsCords_40 (k0 := 4) rfl rfl (ch_m hk hm) rfl rfl (Nat.le_of_ble_eq_true rfl) (Nat.le_of_ble_eq_true rfl) (Nat.le_of_ble_eq_true rfl) (Nat.le_of_ble_eq_true rfl) (Nat.le_of_ble_eq_true rfl) ?_ (fun _ _ z => z.elim)
    refine v_isub F (pc := 43) (a := m_pw c 1 (τ 32 m)) (b := m_pw (τ 34 m) 1 (τ 32 m)) dX0_bearsCords_43 ?_
    refine v_callVp F (pc := 44) (As := [.int (iI ((τ 35 (m : Nat)) / 20)), .int (iI (1)), .int (iI ((m_pw c 1 (τ 32 m)) - (m_pw (τ 34 m) 1 (τ 32 m))))]) (rest := []) ci_X0_136 ct_X0_bearsMore cs_X0_bearsMore (k_X0_bearsMore l g (Or.inr rfl) hk (τ := τ) (K := K) (r := r) (cp := cp) (b := b) (b' := b') hV hW ((τ 35 (m : Nat)) / 20) (by omega) 1 (by omega) ((m_pw c 1 (τ 32 m)) - (m_pw (τ 34 m) 1 (τ 32 m))) (by omega)) dX0_bearsCords_44 (k0 := 3) rfl rfl (ch_12 hk) rfl rfl (Nat.le_of_ble_eq_true rfl) (Nat.le_of_ble_eq_true rfl) (Nat.le_of_ble_eq_true rfl) (Nat.le_of_ble_eq_true rfl) (Nat.le_of_ble_eq_true rfl) ?_ (fun _ _ z => z.elim)
    refine v_if_eqB F (pc := 47) (b := (cBM r τ 18 ((τ 35 (m : Nat)) / 20) 1 ((m_pw c 1 (τ 32 m)) - (m_pw (τ 34 m) 1 (τ 32 m))))) 54 dX0_bearsCords_47 (by decide) (fun c_2 => ?_) (fun c_2 => ?_)
    · refine v_iconst F (pc := 54) dX0_bearsCords_54 ?_
      refine v_iret F (pc := 55) (z := (iI (0))) dX0_bearsCords_55 rfl (by first | rfl | exact nar_bI _ | decide) (Nat.le_of_ble_eq_true rfl) (Nat.le_of_ble_eq_true rfl) ?_
      exact ⟨congrArg (fun z => some (Value.int (iI z))) (show (0 : Int) = bI (cBC r τ 12 m c) by simp only [cBC]; simp_all [bI]), rfl⟩
    · refine v_iconst F (pc := 50) dX0_bearsCords_50 ?_
      refine v_goto F (pc := 51) 55 dX0_bearsCords_51 (by decide) ?_
      refine v_iret F (pc := 55) (z := (iI (1))) dX0_bearsCords_55 rfl (by first | rfl | exact nar_bI _ | decide) (Nat.le_of_ble_eq_true rfl) (Nat.le_of_ble_eq_true rfl) ?_
      exact ⟨congrArg (fun z => some (Value.int (iI z))) (show (1 : Int) = bI (cBC r τ 12 m c) by simp only [cBC]; simp_all [bI]), rfl⟩
theorem k_X0_bearsCords (l : Launch) (g : gT) {w : Nat} (hw : w = 5 ∨ w = 12) {P K : Nat → Nat} {r : Nat → Int → Option Nat} {cp : Nat → Nat} {b b' : Nat} {τ : sT} (hk : cok P K cp) (hV : CV K r cp τ) (hW : Wb τ w) {m : Nat} (hm : K m = 1) (c : Int) (hc : 0 ≤ c ∧ c ≤ 2) (hcl : 0 ≤ τ 35 m ∧ τ 35 m / 20 < τ 55 0) : CM l g yX0_bearsCords cX0_bearsCords 4 (some .boolean) { frames := 5, cells := 0, slots := 0, locals := 107 } [.ref (P w), .ref m, .int (iI (c))] (cheap g P K r cp b b' τ) (pV (some (.int (iI (bI (cBC r τ w m c))))) (cheap g P K r cp b b' τ)) (noX) := by
  rcases hw with rfl | rfl
  · exact k_X0_bearsCords_5 l g hk hV hW hm c hc hcl
  · exact k_X0_bearsCords_12 l g hk hV hW hm c hc hcl
