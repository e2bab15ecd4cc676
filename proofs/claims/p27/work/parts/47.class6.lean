-- X4_pack
set_option maxRecDepth 100000 in
set_option maxHeartbeats 8000000 in
theorem k_X4_pack (l : Launch) (g : gT) {P K : Nat → Nat} {r : Nat → Int → Option Nat} {cp : Nat → Nat} {b b' : Nat} {τ : sT} (hk : cok P K cp) (hb : b = 5 ∨ b = 12) (hb2 : b' = 5 ∨ b' = 12) (hV : CV K r cp τ) (hW : Wb τ b) (hPC : PC r τ) : CM l g yX4_pack cX4_pack 4 (some .int) ({ frames := 9, cells := 60, slots := 9000, locals := 198 }) [.ref (P 0)] (cheap g P K r cp b b' τ) (fun v h1 => ∃ (ed cap : Nat) (q1 : Int → Option Nat) (mc : Int), cok (kup P 24 ed) K (kup cp 1 cap) ∧ τ 53 0 ≤ cap ∧ cap ≤ 150 ∧ (∀ j : Int, 0 ≤ j → j < τ 53 0 → q1 j = some (pkL r τ (τ 53 0).toNat j)) ∧ ((∃ i : Nat, (i : Int) < τ 53 0 ∧ (∀ j, j < i → cFF (rup r 1 q1) (pkS (rup r 1 q1) (su (su τ 51 0 mc) 54 0 (τ 53 0)) b' j) b' (ad (rup r 1 q1) 1 ((j : Nat) : Int)) ≠ -1) ∧ cFF (rup r 1 q1) (pkS (rup r 1 q1) (su (su τ 51 0 mc) 54 0 (τ 53 0)) b' i) b' (ad (rup r 1 q1) 1 ((i : Nat) : Int)) = -1 ∧ v = some (.int (iI (-1))) ∧ h1 = cheap g (kup P 24 ed) K (rup r 1 q1) (kup cp 1 cap) b b' (pkS (rup r 1 q1) (su (su τ 51 0 mc) 54 0 (τ 53 0)) b' i)) ∨ (∃ n : Nat, (n : Int) = τ 53 0 ∧ (∀ j, j < n → cFF (rup r 1 q1) (pkS (rup r 1 q1) (su (su τ 51 0 mc) 54 0 (τ 53 0)) b' j) b' (ad (rup r 1 q1) 1 ((j : Nat) : Int)) ≠ -1) ∧ v = some (.int (iI (cMc (rup r 1 q1) (pkS (rup r 1 q1) (su (su τ 51 0 mc) 54 0 (τ 53 0)) b' n) n))) ∧ h1 = cheap g (kup P 24 ed) K (rup r 1 q1) (kup cp 1 cap) b' b (cMv (rup r 1 q1) (pkS (rup r 1 q1) (su (su τ 51 0 mc) 54 0 (τ 53 0)) b' n) n)))) (noX) := by
  refine CM.of (lo := [some (.ref (P 0)), none, none, none]) (by decide) (Nat.le_of_ble_eq_true rfl) (by simp [Value.category]) rfl ?_
  intro pX eX sX mX bX tX cX AX F htab hmn
  have F : Fx pX l sX mX ([.ref (P 0)] : List Value).toArray tX cX cX4_pack 4 (some .int) RX4 g AX := F
  have hM := hV.1
  have hR := hV.2.1
  have hL0 := hV.2.2.1
  have hL1 := hV.2.2.2.1
  have hL2 := hV.2.2.2.2.1
  have hS20 := hV.2.2.2.2.2.1
  have hS21 := hV.2.2.2.2.2.2.1
  have hS22 := hV.2.2.2.2.2.2.2.1
  have hS2 := hV.2.2.2.2.2.2.2.2.1
  have hn8 : 0 ≤ τ 55 0 ∧ τ 55 0 ≤ 8 := ⟨hL2.1, hL2.2.2.2.1⟩
  have hn60 : 0 ≤ τ 53 0 ∧ τ 53 0 ≤ 60 := ⟨hL0.1, hL0.2.2.2.1⟩
  have hWb1 := hW.1
  have hWb2 := hW.2.1
  have hWb3 := hW.2.2.1
  have hWb5 := hW.2.2.2.1
  have hWb6 := hW.2.2.2.2
  have hb23 : b < 23 := by omega
  have hb23' : b' < 23 := by omega
  refine v_aload_n F (pc := 0) dX4_pack_0 rfl ?_
  refine v_callV F (pc := 1) (As := []) (rest := []) ci_X4_162 ct_X4_listForPacking cs_X4_listForPacking (k_X4_listForPacking l g hk hb hb2 hV hW hPC) dX4_pack_1 (k0 := 7) rfl rfl (ch_0 hk) rfl rfl (Nat.le_of_ble_eq_true rfl) (Nat.le_of_ble_eq_true rfl) (Nat.le_of_ble_eq_true rfl) (Nat.le_of_ble_eq_true rfl) (Nat.le_of_ble_eq_true rfl) (fun v_ h_ hp_ => ?_) (fun _ _ z => z.elim)
  obtain ⟨rfl, ed, cap, q1, mc, rfl, hkL, hcp1, hcp2, hq1⟩ := hp_
  have hL1p : Ls1 K (rup r 1 q1) (kup cp 1 cap) (su (su τ 51 0 mc) 54 0 (τ 53 0)) := by
    refine ⟨hn60.1, ?_, ?_, hn60.2, fun k h0 h1 => ?_⟩
    · show τ 53 0 ≤ ((kup cp 1 cap 1 : Nat) : Int); rw [kup_s]; exact hcp1
    · rw [kup_s]; exact hcp2
    · have h1' : k < τ 53 0 := h1
      have e0 : ad (rup r 1 q1) 1 k = pkL r τ (τ 53 0).toNat k := by show (q1 k).getD 0 = _; rw [hq1 k h0 h1']; rfl
      rw [e0]
      exact ⟨hq1 k h0 h1', pkL_K hL0 _ (by omega) k h0 (by omega)⟩
  have hV1 : CV K (rup r 1 q1) (kup cp 1 cap) (su (su τ 51 0 mc) 54 0 (τ 53 0)) := ⟨hM, hR, hL0, hL1p, hL2, hV.2.2.2.2.2⟩
  refine v_aload_n F (pc := 4) dX4_pack_4 rfl ?_
  refine v_getf F (pc := 5) fd_X4_39_7 (v := .ref ((kup P 24 ed) b')) dX4_pack_5 (ch_0 hkL) rfl ?_
  refine v_callVn F (pc := 8) (As := []) (rest := []) ci_X4_165 ct_X0_clearAll cs_X0_clearAll (k_X0_clearAll l g hb2 hkL (τ := su (su τ 51 0 mc) 54 0 (τ 53 0)) (K := K) (r := (rup r 1 q1)) (cp := (kup cp 1 cap)) (b := b) (b' := b')) dX4_pack_8 (k0 := 3) rfl rfl (ch_lo hkL hb2) rfl rfl (Nat.le_of_ble_eq_true rfl) (Nat.le_of_ble_eq_true rfl) (Nat.le_of_ble_eq_true rfl) (Nat.le_of_ble_eq_true rfl) (Nat.le_of_ble_eq_true rfl) ?_ (fun _ _ z => z.elim)
  refine v_iconst F (pc := 11) dX4_pack_11 ?_
  refine v_istore_n F (pc := 12) (lo' := [some (.ref (P 0)), some (.int (iI (0))), none, none]) dX4_pack_12 (Nat.le_of_ble_eq_true rfl) rfl ?_
  have LP13 : ∀ (N_ : Nat) (i : Nat), ((i : Int) ≤ τ 53 0) → ((∀ j, j < i → cFF (rup r 1 q1) (pkS (rup r 1 q1) (su (su τ 51 0 mc) 54 0 (τ 53 0)) b' j) b' (ad (rup r 1 q1) 1 ((j : Nat) : Int)) ≠ -1)) → (τ 53 0).toNat - i < N_ → VE pX l eX ({ frames := 9, cells := 60, slots := 9000, locals := 198 }) sX mX ([.ref (P 0)] : List Value).toArray bX tX cX 4 g AX (cheap g (kup P 24 ed) K (rup r 1 q1) (kup cp 1 cap) b b' (pkS (rup r 1 q1) (su (su τ 51 0 mc) 54 0 (τ 53 0)) b' i)) 60 9000 13 [some (.ref (P 0)), some (.int (iI ((i : Nat)))), none, none] [] (fun v h1 => ∃ (ed cap : Nat) (q1 : Int → Option Nat) (mc : Int), cok (kup P 24 ed) K (kup cp 1 cap) ∧ τ 53 0 ≤ cap ∧ cap ≤ 150 ∧ (∀ j : Int, 0 ≤ j → j < τ 53 0 → q1 j = some (pkL r τ (τ 53 0).toNat j)) ∧ ((∃ i : Nat, (i : Int) < τ 53 0 ∧ (∀ j, j < i → cFF (rup r 1 q1) (pkS (rup r 1 q1) (su (su τ 51 0 mc) 54 0 (τ 53 0)) b' j) b' (ad (rup r 1 q1) 1 ((j : Nat) : Int)) ≠ -1) ∧ cFF (rup r 1 q1) (pkS (rup r 1 q1) (su (su τ 51 0 mc) 54 0 (τ 53 0)) b' i) b' (ad (rup r 1 q1) 1 ((i : Nat) : Int)) = -1 ∧ v = some (.int (iI (-1))) ∧ h1 = cheap g (kup P 24 ed) K (rup r 1 q1) (kup cp 1 cap) b b' (pkS (rup r 1 q1) (su (su τ 51 0 mc) 54 0 (τ 53 0)) b' i)) ∨ (∃ n : Nat, (n : Int) = τ 53 0 ∧ (∀ j, j < n → cFF (rup r 1 q1) (pkS (rup r 1 q1) (su (su τ 51 0 mc) 54 0 (τ 53 0)) b' j) b' (ad (rup r 1 q1) 1 ((j : Nat) : Int)) ≠ -1) ∧ v = some (.int (iI (cMc (rup r 1 q1) (pkS (rup r 1 q1) (su (su τ 51 0 mc) 54 0 (τ 53 0)) b' n) n))) ∧ h1 = cheap g (kup P 24 ed) K (rup r 1 q1) (kup cp 1 cap) b' b (cMv (rup r 1 q1) (pkS (rup r 1 q1) (su (su τ 51 0 mc) 54 0 (τ 53 0)) b' n) n)))) (noX) 60 9000 := by
    intro N_
    induction N_ with
    | zero => intro i _ _ hm_; exact absurd hm_ (Nat.not_lt_zero _)
    | succ N_ ih =>
      intro i hi1 hft hm_
      obtain ⟨hVi, hWi⟩ := pkS_ok (r := (rup r 1 q1)) (τ := (su (su τ 51 0 mc) 54 0 (τ 53 0))) hb2 hV1 i hi1 hft
      have e54 : (pkS (rup r 1 q1) (su (su τ 51 0 mc) 54 0 (τ 53 0)) b' i) 54 0 = τ 53 0 := by rw [pkS_fix hb2 rfl (by decide) i]; rfl
      refine v_iload_n F (pc := 13) dX4_pack_13 rfl ?_
      refine v_aload_n F (pc := 14) dX4_pack_14 rfl ?_
      refine v_getf F (pc := 15) fd_X4_27_7 (v := .ref (P 4)) dX4_pack_15 (ch_0 hkL) rfl ?_
      refine v_callVp F (pc := 18) (As := []) (rest := [.int (iI ((i : Nat)))]) ci_X4_53 ct_Jx4a65c_size_8abf5 cs_Jx4a65c_size_8abf5 (k_Jx4a65c_size_8abf5 l g (n := (pkS (rup r 1 q1) (su (su τ 51 0 mc) 54 0 (τ 53 0)) b' i) 54 0) (ch_4 hkL)) dX4_pack_18 (k0 := 2) rfl rfl (ch_4 hkL) rfl rfl (Nat.le_of_ble_eq_true rfl) (Nat.le_of_ble_eq_true rfl) (Nat.le_of_ble_eq_true rfl) (Nat.le_of_ble_eq_true rfl) (Nat.le_of_ble_eq_true rfl) ?_ (fun _ _ z => z.elim)
      refine v_icmp_ge F (pc := 21) (a := (i : Nat)) (b := (pkS (rup r 1 q1) (su (su τ 51 0 mc) 54 0 (τ 53 0)) b' i) 54 0) 72 dX4_pack_21 (by decide) (by omega) (by omega) (fun c_1 => ?_) (fun c_1 => ?_)
      · refine v_aload_n F (pc := 72) dX4_pack_72 rfl ?_
        refine v_callVn F (pc := 73) (As := []) (rest := []) ci_X4_171 ct_X4_swapLayouts cs_X4_swapLayouts (k_X4_swapLayouts l g hkL) dX4_pack_73 (k0 := 7) rfl rfl (ch_0 hkL) rfl rfl (Nat.le_of_ble_eq_true rfl) (Nat.le_of_ble_eq_true rfl) (Nat.le_of_ble_eq_true rfl) (Nat.le_of_ble_eq_true rfl) (Nat.le_of_ble_eq_true rfl) ?_ (fun _ _ z => z.elim)
        refine v_aload_n F (pc := 76) dX4_pack_76 rfl ?_
        refine v_callV F (pc := 77) (As := []) (rest := []) ci_X4_174 ct_X4_moveToPacked cs_X4_moveToPacked (k_X4_moveToPacked l g hkL hVi) dX4_pack_77 (k0 := 7) rfl rfl (ch_0 hkL) rfl rfl (Nat.le_of_ble_eq_true rfl) (Nat.le_of_ble_eq_true rfl) (Nat.le_of_ble_eq_true rfl) (Nat.le_of_ble_eq_true rfl) (Nat.le_of_ble_eq_true rfl) (fun v_ h_ hp_ => ?_) (fun _ _ z => z.elim)
        obtain ⟨n, hn, rfl, rfl⟩ := hp_
        refine v_iret F (pc := 80) (z := (iI (cMc (rup r 1 q1) (pkS (rup r 1 q1) (su (su τ 51 0 mc) 54 0 (τ 53 0)) b' i) n))) dX4_pack_80 rfl rfl (Nat.le_of_ble_eq_true rfl) (Nat.le_of_ble_eq_true rfl) ?_
        have e53 : (pkS (rup r 1 q1) (su (su τ 51 0 mc) 54 0 (τ 53 0)) b' i) 53 0 = τ 53 0 := by rw [pkS_fix hb2 rfl (by decide) i]; rfl
        have en : n = i := by omega
        subst en
        exact ⟨ed, cap, q1, mc, hkL, hcp1, hcp2, hq1, Or.inr ⟨n, by omega, hft, rfl, rfl⟩⟩
      · have hKi : K (ad (rup r 1 q1) 1 (i : Nat)) = 1 := (hL1p.2.2.2.2 i (by omega) (show (i : Int) < τ 53 0 by omega)).2
        have hmbi := hVi.1 _ hKi
        refine v_aload_n F (pc := 24) dX4_pack_24 rfl ?_
        refine v_getf F (pc := 25) fd_X4_27_7 (v := .ref (P 4)) dX4_pack_25 (ch_0 hkL) rfl ?_
        refine v_iload_n F (pc := 28) dX4_pack_28 rfl ?_
        refine v_callVp F (pc := 29) (As := [.int (iI ((i : Nat)))]) (rest := []) ci_X4_101 ct_Jx4a65c_get_915e3 cs_Jx4a65c_get_915e3 (kl_get1 l g (τ := (pkS (rup r 1 q1) (su (su τ 51 0 mc) 54 0 (τ 53 0)) b' i)) (r := (rup r 1 q1)) (cp := (kup cp 1 cap)) hkL hVi.2.2.2.1 (k := (i : Nat)) (by omega) (show ((i : Nat) : Int) < (pkS (rup r 1 q1) (su (su τ 51 0 mc) 54 0 (τ 53 0)) b' i) 54 0 by omega)) dX4_pack_29 (k0 := 2) rfl rfl (ch_4 hkL) rfl rfl (Nat.le_of_ble_eq_true rfl) (Nat.le_of_ble_eq_true rfl) (Nat.le_of_ble_eq_true rfl) (Nat.le_of_ble_eq_true rfl) (Nat.le_of_ble_eq_true rfl) ?_ (fun _ _ z => z.elim)
        have kq_2 : K (ad (rup r 1 q1) 1 (i : Nat)) = 1 := (hVi.2.2.2.1.2.2.2.2 (i : Nat) (by omega) (show ((i : Nat) : Int) < (pkS (rup r 1 q1) (su (su τ 51 0 mc) 54 0 (τ 53 0)) b' i) 54 0 by omega)).2
        refine v_castS F (pc := 32) (ci := 4) rfl tk_X4_105 dX4_pack_32 (ch_m hkL kq_2) ?_
        refine v_astore_n F (pc := 35) (lo' := [some (.ref (P 0)), some (.int (iI ((i : Nat)))), some (.ref (ad (rup r 1 q1) 1 (i : Nat))), none]) dX4_pack_35 (Nat.le_of_ble_eq_true rfl) rfl ?_
        refine v_aload_n F (pc := 36) dX4_pack_36 rfl ?_
        refine v_getf F (pc := 37) fd_X4_39_7 (v := .ref ((kup P 24 ed) b')) dX4_pack_37 (ch_0 hkL) rfl ?_
        refine v_aload_n F (pc := 40) dX4_pack_40 rfl ?_
        refine v_callVp F (pc := 41) (As := [.ref (ad (rup r 1 q1) 1 (i : Nat))]) (rest := []) ci_X4_117 ct_X0_firstFit cs_X0_firstFit (k_X0_firstFit l g hb2 hkL (τ := (pkS (rup r 1 q1) (su (su τ 51 0 mc) 54 0 (τ 53 0)) b' i)) (K := K) (r := (rup r 1 q1)) (cp := (kup cp 1 cap)) (b := b) (b' := b') hVi (hWi.wb (by omega)) kq_2) dX4_pack_41 (k0 := 3) rfl rfl (ch_lo hkL hb2) rfl rfl (Nat.le_of_ble_eq_true rfl) (Nat.le_of_ble_eq_true rfl) (Nat.le_of_ble_eq_true rfl) (Nat.le_of_ble_eq_true rfl) (Nat.le_of_ble_eq_true rfl) ?_ (fun _ _ z => z.elim)
        have rg_3 := cFF_rng (r := (rup r 1 q1)) (τ := (pkS (rup r 1 q1) (su (su τ 51 0 mc) 54 0 (τ 53 0)) b' i)) (w := b') (m := ad (rup r 1 q1) 1 (i : Nat)) hVi kq_2
        refine v_istore_n F (pc := 44) (lo' := [some (.ref (P 0)), some (.int (iI ((i : Nat)))), some (.ref (ad (rup r 1 q1) 1 (i : Nat))), some (.int (iI (cFF (rup r 1 q1) (pkS (rup r 1 q1) (su (su τ 51 0 mc) 54 0 (τ 53 0)) b' i) b' (ad (rup r 1 q1) 1 (i : Nat)))))]) dX4_pack_44 (Nat.le_of_ble_eq_true rfl) rfl ?_
        refine v_iload_n F (pc := 45) dX4_pack_45 rfl ?_
        refine v_iconst F (pc := 46) dX4_pack_46 ?_
        refine v_icmp_ne F (pc := 47) (a := cFF (rup r 1 q1) (pkS (rup r 1 q1) (su (su τ 51 0 mc) 54 0 (τ 53 0)) b' i) b' (ad (rup r 1 q1) 1 (i : Nat))) (b := -1) 52 dX4_pack_47 (by decide) (by omega) (by omega) (fun c_4 => ?_) (fun c_4 => ?_)
        · have hq9 := c_4
          have hci := cFF_rng (w := b') hVi hKi
          have hmqc : Mb (su (pkS (rup r 1 q1) (su (su τ 51 0 mc) 54 0 (τ 53 0)) b' i) 36 (ad (rup r 1 q1) 1 (i : Nat)) (cFF (rup r 1 q1) (pkS (rup r 1 q1) (su (su τ 51 0 mc) 54 0 (τ 53 0)) b' i) b' (ad (rup r 1 q1) 1 (i : Nat)))) (ad (rup r 1 q1) 1 (i : Nat)) := Mb_su (Or.inr rfl) (by omega) hmbi
          have hputc : 0 ≤ (cFF (rup r 1 q1) (pkS (rup r 1 q1) (su (su τ 51 0 mc) 54 0 (τ 53 0)) b' i) b' (ad (rup r 1 q1) 1 (i : Nat))) ∧ (cFF (rup r 1 q1) (pkS (rup r 1 q1) (su (su τ 51 0 mc) 54 0 (τ 53 0)) b' i) b' (ad (rup r 1 q1) 1 (i : Nat))) + (pkS (rup r 1 q1) (su (su τ 51 0 mc) 54 0 (τ 53 0)) b' i) 31 (ad (rup r 1 q1) 1 (i : Nat)) ≤ 160 := by omega
          refine v_aload_n F (pc := 52) dX4_pack_52 rfl ?_
          refine v_iload_n F (pc := 53) dX4_pack_53 rfl ?_
          refine v_putf F (pc := 54) fp_X4_168_4 dX4_pack_54 (ch_m hkL kq_2) rfl rfl (Nat.le_of_ble_eq_true rfl) (h' := cheap g (kup P 24 ed) K (rup r 1 q1) (kup cp 1 cap) b b' (su (pkS (rup r 1 q1) (su (su τ 51 0 mc) 54 0 (τ 53 0)) b' i) 36 (ad (rup r 1 q1) 1 (i : Nat)) (cFF (rup r 1 q1) (pkS (rup r 1 q1) (su (su τ 51 0 mc) 54 0 (τ 53 0)) b' i) b' (ad (rup r 1 q1) 1 (i : Nat))))) (cu_m6 hkL kq_2 (cFF (rup r 1 q1) (pkS (rup r 1 q1) (su (su τ 51 0 mc) 54 0 (τ 53 0)) b' i) b' (ad (rup r 1 q1) 1 (i : Nat)))) ?_
          refine v_aload_n F (pc := 57) dX4_pack_57 rfl ?_
          refine v_getf F (pc := 58) fd_X4_39_7 (v := .ref ((kup P 24 ed) b')) dX4_pack_58 (ch_0 hkL) rfl ?_
          refine v_aload_n F (pc := 61) dX4_pack_61 rfl ?_
          refine v_iload_n F (pc := 62) dX4_pack_62 rfl ?_
          refine v_callVn F (pc := 63) (As := [.ref (ad (rup r 1 q1) 1 (i : Nat)), .int (iI (cFF (rup r 1 q1) (pkS (rup r 1 q1) (su (su τ 51 0 mc) 54 0 (τ 53 0)) b' i) b' (ad (rup r 1 q1) 1 (i : Nat))))]) (rest := []) ci_X4_126 ct_X0_put cs_X0_put (k_X0_put l g hb2 hkL (τ := su (pkS (rup r 1 q1) (su (su τ 51 0 mc) 54 0 (τ 53 0)) b' i) 36 (ad (rup r 1 q1) 1 (i : Nat)) (cFF (rup r 1 q1) (pkS (rup r 1 q1) (su (su τ 51 0 mc) 54 0 (τ 53 0)) b' i) b' (ad (rup r 1 q1) 1 (i : Nat)))) (K := K) (r := (rup r 1 q1)) (cp := (kup cp 1 cap)) (b := b) (b' := b') kq_2 hmqc (cFF (rup r 1 q1) (pkS (rup r 1 q1) (su (su τ 51 0 mc) 54 0 (τ 53 0)) b' i) b' (ad (rup r 1 q1) 1 (i : Nat))) hputc) dX4_pack_63 (k0 := 3) rfl rfl (ch_lo hkL hb2) rfl rfl (Nat.le_of_ble_eq_true rfl) (Nat.le_of_ble_eq_true rfl) (Nat.le_of_ble_eq_true rfl) (Nat.le_of_ble_eq_true rfl) (Nat.le_of_ble_eq_true rfl) ?_ (fun _ _ z => z.elim)
          refine v_iinc F (pc := 66) (lo' := [some (.ref (P 0)), some (.int (iI ((i : Nat) + 1))), some (.ref (ad (rup r 1 q1) 1 (i : Nat))), some (.int (iI (cFF (rup r 1 q1) (pkS (rup r 1 q1) (su (su τ 51 0 mc) 54 0 (τ 53 0)) b' i) b' (ad (rup r 1 q1) 1 (i : Nat)))))]) dX4_pack_66 rfl (Nat.le_of_ble_eq_true rfl) rfl ?_
          refine v_goto F (pc := 69) 13 dX4_pack_69 (by decide) ?_
          have ih2 := ih (i + 1) (by omega) (fun j hj => by rcases Nat.lt_succ_iff_lt_or_eq.mp hj with q | rfl; exact hft j q; exact hq9) (by omega)
          exact V.fg (ih2) ⟨rfl, ⟨rfl, trivial⟩⟩
        · have hq9 := c_4
          refine v_iconst F (pc := 50) dX4_pack_50 ?_
          refine v_iret F (pc := 51) (z := (iI (-1))) dX4_pack_51 rfl rfl (Nat.le_of_ble_eq_true rfl) (Nat.le_of_ble_eq_true rfl) ?_
          exact ⟨ed, cap, q1, mc, hkL, hcp1, hcp2, hq1, Or.inl ⟨i, by omega, hft, hq9, rfl, rfl⟩⟩
  exact V.fg (LP13 _ 0 hn60.1 (fun j hj => absurd hj (Nat.not_lt_zero j)) (Nat.lt_succ_self _)) ⟨rfl, ⟨rfl, trivial⟩⟩
-- X4_roomFor
set_option maxRecDepth 100000 in
set_option maxHeartbeats 8000000 in
theorem k_X4_roomFor (l : Launch) (g : gT) {P K : Nat → Nat} {r : Nat → Int → Option Nat} {cp : Nat → Nat} {b b' : Nat} {τ : sT} (hk : cok P K cp) (hb : b = 5 ∨ b = 12) (hb2 : b' = 5 ∨ b' = 12) (hV : CV K r cp τ) (hW : Wb τ b) (hPC : PC r τ) (hbb : b' = 17 - b) (hW2 : Wn τ b 200000) (n p w c : Int) (hn : -2147483648 ≤ n ∧ n ≤ 2147483647) (hp : -2147483648 ≤ p ∧ p ≤ 2147483647) (hw : -2147483648 ≤ w ∧ w ≤ 2147483647) (hc : -2147483648 ≤ c ∧ c ≤ 2147483647) : CM l g yX4_roomFor cX4_roomFor 8 (some .int) ({ frames := 12, cells := 5, slots := 31, locals := 199 }) [.ref (P 0), .int (iI (n)), .int (iI (p)), .int (iI (w)), .int (iI (c))] (cheap g P K r cp b b' τ) (fun v h1 => cKD n p w c ∧ ∃ (q m : Nat), K q ≠ 1 ∧ K q ≠ 2 ∧ (m : Int) = τ 55 0 ∧ v = some (.int (iI (rfC r (cCpA (smo τ q (τ 0 0) n p w c) b' b) b' q m))) ∧ h1 = cheap g P K r cp b b' (rfS r (cCpA (smo τ q (τ 0 0) n p w c) b' b) b' q m)) (fun E h1 => E = "java/lang/IllegalArgumentException" ∧ h1 = cheap g P K r cp b b' τ ∧ ¬ cKD n p w c) := by
  refine CM.of (lo := [some (.ref (P 0)), some (.int (iI (n))), some (.int (iI (p))), some (.int (iI (w))), some (.int (iI (c))), none, none, none]) (by decide) (Nat.le_of_ble_eq_true rfl) (by simp [Value.category]) rfl ?_
  intro pX eX sX mX bX tX cX AX F htab hmn
  have F : Fx pX l sX mX ([.ref (P 0), .int (iI (n)), .int (iI (p)), .int (iI (w)), .int (iI (c))] : List Value).toArray tX cX cX4_roomFor 8 (some .int) RX4 g AX := F
  have hM := hV.1
  have hR := hV.2.1
  have hL0 := hV.2.2.1
  have hL1 := hV.2.2.2.1
  have hL2 := hV.2.2.2.2.1
  have hS20 := hV.2.2.2.2.2.1
  have hS21 := hV.2.2.2.2.2.2.1
  have hS22 := hV.2.2.2.2.2.2.2.1
  have hS2 := hV.2.2.2.2.2.2.2.2.1
  have hn8 : 0 ≤ τ 55 0 ∧ τ 55 0 ≤ 8 := ⟨hL2.1, hL2.2.2.2.1⟩
  have hn60 : 0 ≤ τ 53 0 ∧ τ 53 0 ≤ 60 := ⟨hL0.1, hL0.2.2.2.1⟩
  have hWb1 := hW.1
  have hWb2 := hW.2.1
  have hWb3 := hW.2.2.1
  have hWb5 := hW.2.2.2.1
  have hWb6 := hW.2.2.2.2
  have hb23 : b < 23 := by omega
  have hb23' : b' < 23 := by omega
  refine v_aload_n F (pc := 0) dX4_roomFor_0 rfl ?_
  refine v_iload_n F (pc := 1) dX4_roomFor_1 rfl ?_
  refine v_iload_n F (pc := 2) dX4_roomFor_2 rfl ?_
  refine v_iload_n F (pc := 3) dX4_roomFor_3 rfl ?_
  refine v_iload F (pc := 4) dX4_roomFor_4 rfl ?_
  refine v_callV F (pc := 6) (As := [.int (iI (n)), .int (iI (p)), .int (iI (w)), .int (iI (c))]) (rest := []) ci_X4_111 ct_X4_newMachine cs_X4_newMachine (k_X4_newMachine l g hk hb hb2 hV hW hPC n p w c (by omega) (by omega) (by omega) (by omega)) dX4_roomFor_6 (k0 := 7) rfl rfl (ch_0 hk) rfl rfl (Nat.le_of_ble_eq_true rfl) (Nat.le_of_ble_eq_true rfl) (Nat.le_of_ble_eq_true rfl) (Nat.le_of_ble_eq_true rfl) (Nat.le_of_ble_eq_true rfl) (fun v_ h_ hp_ => ?_) (fun E_ h_ hp_ => by obtain ⟨rfl, rfl, hc_⟩ := hp_; exact v_xout F.2.2.2.2.2.1 htab (Nat.le_of_ble_eq_true rfl) (Nat.le_of_ble_eq_true rfl) (⟨rfl, rfl, hc_⟩))
  obtain ⟨q, nq, rfl, rfl, hkd⟩ := hp_
  have hfr := ch_fresh hk nq
  have hkn : cok P (kup K q 1) cp := (ch_newm hk nq (τ 0 0) n p w c).1
  have hVn : CV (kup K q 1) r cp (smo τ q (τ 0 0) n p w c) := hV.newm hfr.2 hkd
  have hWn : Wb (smo τ q (τ 0 0) n p w c) b := Wb_smo hb hW _ _ _ _ _
  have hmqn := hVn.1 q (kup_s K q 1)
  have e55 : (smo τ q (τ 0 0) n p w c) 55 0 = τ 55 0 := rfl
  have e53 : (smo τ q (τ 0 0) n p w c) 53 0 = τ 53 0 := rfl
  refine v_astore F (pc := 9) (lo' := [some (.ref (P 0)), some (.int (iI (n))), some (.int (iI (p))), some (.int (iI (w))), some (.int (iI (c))), some (.ref q), none, none]) dX4_roomFor_9 (Nat.le_of_ble_eq_true rfl) rfl ?_
  refine v_aload_n F (pc := 11) dX4_roomFor_11 rfl ?_
  refine v_getf F (pc := 12) fd_X4_39_7 (v := .ref (P b')) dX4_roomFor_12 (ch_0 hkn) rfl ?_
  refine v_aload_n F (pc := 15) dX4_roomFor_15 rfl ?_
  refine v_getf F (pc := 16) fd_X4_35_7 (v := .ref (P b)) dX4_roomFor_16 (ch_0 hkn) rfl ?_
  refine v_callVn F (pc := 19) (As := [.ref (P b)]) (rest := []) ci_X4_224 ct_X0_copyFrom cs_X0_copyFrom (k_X0_copyFrom l g hb2 hkn (τ := (smo τ q (τ 0 0) n p w c)) (K := (kup K q 1)) (r := r) (cp := cp) (b := b) (b' := b') (by omega)) dX4_roomFor_19 (k0 := 3) rfl rfl (ch_lo hkn hb2) rfl rfl (Nat.le_of_ble_eq_true rfl) (Nat.le_of_ble_eq_true rfl) (Nat.le_of_ble_eq_true rfl) (Nat.le_of_ble_eq_true rfl) (Nat.le_of_ble_eq_true rfl) ?_ (fun _ _ z => z.elim)
  have hV2 : CV (kup K q 1) r cp (cCpA (smo τ q (τ 0 0) n p w c) b' b) := hVn.of (fun f hf => cCpA_fix hb2 hf)
  have hW20 : Wn (cCpA (smo τ q (τ 0 0) n p w c) b' b) b' 200000 := cCpA_Wn (Wn_smo hb hW2 _ _ _ _ _)
  refine v_iconst F (pc := 22) dX4_roomFor_22 ?_
  refine v_istore F (pc := 23) (lo' := [some (.ref (P 0)), some (.int (iI (n))), some (.int (iI (p))), some (.int (iI (w))), some (.int (iI (c))), some (.ref q), some (.int (iI (0))), none]) dX4_roomFor_23 (Nat.le_of_ble_eq_true rfl) rfl ?_
  refine v_iconst F (pc := 25) dX4_roomFor_25 ?_
  refine v_istore F (pc := 26) (lo' := [some (.ref (P 0)), some (.int (iI (n))), some (.int (iI (p))), some (.int (iI (w))), some (.int (iI (c))), some (.ref q), some (.int (iI (0))), some (.int (iI (0)))]) dX4_roomFor_26 (Nat.le_of_ble_eq_true rfl) rfl ?_
  have LP28 : ∀ (N_ : Nat) (k : Nat), ((k : Int) ≤ τ 55 0) → (Wn (rfS r (cCpA (smo τ q (τ 0 0) n p w c) b' b) b' q k) b' (200000 + 40000 * (k : Int))) → (τ 55 0).toNat - k < N_ → VE pX l eX ({ frames := 12, cells := 5, slots := 31, locals := 199 }) sX mX ([.ref (P 0), .int (iI (n)), .int (iI (p)), .int (iI (w)), .int (iI (c))] : List Value).toArray bX tX cX 8 g AX (cheap g P (kup K q 1) r cp b b' (rfS r (cCpA (smo τ q (τ 0 0) n p w c) b' b) b' q k)) 5 31 28 [some (.ref (P 0)), some (.int (iI (n))), some (.int (iI (p))), some (.int (iI (w))), some (.int (iI (c))), some (.ref q), some (.int (iI (rfC r (cCpA (smo τ q (τ 0 0) n p w c) b' b) b' q k))), some (.int (iI ((k : Nat))))] [] (fun v h1 => cKD n p w c ∧ ∃ (q m : Nat), K q ≠ 1 ∧ K q ≠ 2 ∧ (m : Int) = τ 55 0 ∧ v = some (.int (iI (rfC r (cCpA (smo τ q (τ 0 0) n p w c) b' b) b' q m))) ∧ h1 = cheap g P K r cp b b' (rfS r (cCpA (smo τ q (τ 0 0) n p w c) b' b) b' q m)) (fun E h1 => E = "java/lang/IllegalArgumentException" ∧ h1 = cheap g P K r cp b b' τ ∧ ¬ cKD n p w c) 5 31 := by
    intro N_
    induction N_ with
    | zero => intro k _ _ hm_; exact absurd hm_ (Nat.not_lt_zero _)
    | succ N_ ih =>
      intro k hk1 hWk hm_
      have hVk : CV (kup K q 1) r cp (rfS r (cCpA (smo τ q (τ 0 0) n p w c) b' b) b' q k) := hV2.of (fun f hf => rfS_fix hb2 hf k)
      have e55k : (rfS r (cCpA (smo τ q (τ 0 0) n p w c) b' b) b' q k) 55 0 = τ 55 0 := by rw [rfS_fix hb2 rfl k]; exact congrFun (cCpA_fix hb2 rfl) 0
      refine v_iload F (pc := 28) dX4_roomFor_28 rfl ?_
      refine v_aload_n F (pc := 30) dX4_roomFor_30 rfl ?_
      refine v_getf F (pc := 31) fd_X4_12_7 (v := .ref (P 1)) dX4_roomFor_31 (ch_0 hkn) rfl ?_
      refine v_getf F (pc := 34) fd_X4_50_6 (v := .ref (P 19)) dX4_roomFor_34 (ch_1 hkn) rfl ?_
      refine v_callVp F (pc := 37) (As := []) (rest := [.int (iI ((k : Nat)))]) ci_X4_53 ct_Jx4a65c_size_8abf5 cs_Jx4a65c_size_8abf5 (k_Jx4a65c_size_8abf5 l g (n := (rfS r (cCpA (smo τ q (τ 0 0) n p w c) b' b) b' q k) 55 0) (ch_19 hkn)) dX4_roomFor_37 (k0 := 2) rfl rfl (ch_19 hkn) rfl rfl (Nat.le_of_ble_eq_true rfl) (Nat.le_of_ble_eq_true rfl) (Nat.le_of_ble_eq_true rfl) (Nat.le_of_ble_eq_true rfl) (Nat.le_of_ble_eq_true rfl) ?_ (fun _ _ z => z.elim)
      refine v_icmp_ge F (pc := 40) (a := (k : Nat)) (b := (rfS r (cCpA (smo τ q (τ 0 0) n p w c) b' b) b' q k) 55 0) 65 dX4_roomFor_40 (by decide) (by omega) (by omega) (fun c_1 => ?_) (fun c_1 => ?_)
      · refine V.sub (h' := cheap g P K r cp b b' (rfS r (cCpA (smo τ q (τ 0 0) n p w c) b' b) b' q k)) ?_ (ch_drop hkn (Or.inl rfl) hfr.2)
        refine v_iload F (pc := 65) dX4_roomFor_65 rfl ?_
        refine v_iret F (pc := 67) (z := (iI (rfC r (cCpA (smo τ q (τ 0 0) n p w c) b' b) b' q k))) dX4_roomFor_67 rfl rfl (Nat.le_of_ble_eq_true rfl) (Nat.le_of_ble_eq_true rfl) ?_
        exact ⟨hkd, q, k, hfr.2.1, hfr.2.2, by omega, rfl, rfl⟩
      · refine v_iload F (pc := 43) dX4_roomFor_43 rfl ?_
        refine v_aload_n F (pc := 45) dX4_roomFor_45 rfl ?_
        refine v_getf F (pc := 46) fd_X4_39_7 (v := .ref (P b')) dX4_roomFor_46 (ch_0 hkn) rfl ?_
        refine v_iload F (pc := 49) dX4_roomFor_49 rfl ?_
        refine v_aload F (pc := 51) dX4_roomFor_51 rfl ?_
        refine v_callV F (pc := 53) (As := [.int (iI ((k : Nat))), .ref q]) (rest := [.int (iI (rfC r (cCpA (smo τ q (τ 0 0) n p w c) b' b) b' q k))]) ci_X4_228 ct_X0_fillUp cs_X0_fillUp (k_X0_fillUp l g hb2 hkn (τ := (rfS r (cCpA (smo τ q (τ 0 0) n p w c) b' b) b' q k)) (K := (kup K q 1)) (r := r) (cp := cp) (b := b) (b' := b') hVk (200000 + 40000 * ((k : Nat) : Int)) (by omega) hWk ((k : Nat) : Int) (by omega) (kup_s K q 1)) dX4_roomFor_53 (k0 := 3) rfl rfl (ch_lo hkn hb2) rfl rfl (Nat.le_of_ble_eq_true rfl) (Nat.le_of_ble_eq_true rfl) (Nat.le_of_ble_eq_true rfl) (Nat.le_of_ble_eq_true rfl) (Nat.le_of_ble_eq_true rfl) (fun v_ h_ hp_ => ?_) (fun _ _ z => z.elim)
        obtain ⟨j, rfl, rfl, hj1, hj2, hj3⟩ := hp_
        refine v_iadd F (pc := 56) (a := rfC r (cCpA (smo τ q (τ 0 0) n p w c) b' b) b' q k) (b := (j : Nat)) dX4_roomFor_56 ?_
        refine v_istore F (pc := 57) (lo' := [some (.ref (P 0)), some (.int (iI (n))), some (.int (iI (p))), some (.int (iI (w))), some (.int (iI (c))), some (.ref q), some (.int (iI ((rfC r (cCpA (smo τ q (τ 0 0) n p w c) b' b) b' q k) + (j : Nat)))), some (.int (iI ((k : Nat))))]) dX4_roomFor_57 (Nat.le_of_ble_eq_true rfl) rfl ?_
        refine v_iinc F (pc := 59) (lo' := [some (.ref (P 0)), some (.int (iI (n))), some (.int (iI (p))), some (.int (iI (w))), some (.int (iI (c))), some (.ref q), some (.int (iI ((rfC r (cCpA (smo τ q (τ 0 0) n p w c) b' b) b' q k) + (j : Nat)))), some (.int (iI ((k : Nat) + 1)))]) dX4_roomFor_59 rfl (Nat.le_of_ble_eq_true rfl) rfl ?_
        refine v_goto F (pc := 62) 28 dX4_roomFor_62 (by decide) ?_
        have hjc : cUc r (rfS r (cCpA (smo τ q (τ 0 0) n p w c) b' b) b' q k) b' (k : Int) q = j := cUc_eq hj1 hj2 hj3
        have hw1 := Wn_up hb2 hVk hWk (by omega) (kup_s K q 1) j hj2
        have eh : rfS r (cCpA (smo τ q (τ 0 0) n p w c) b' b) b' q (k + 1) = cUp r (rfS r (cCpA (smo τ q (τ 0 0) n p w c) b' b) b' q k) b' (k : Int) q j := by show cUp r _ b' _ q (cUc _ _ _ _ _) = _; rw [hjc]
        have ec : rfC r (cCpA (smo τ q (τ 0 0) n p w c) b' b) b' q (k + 1) = rfC r (cCpA (smo τ q (τ 0 0) n p w c) b' b) b' q k + ((j : Nat) : Int) := by show _ + ((cUc _ _ _ _ _ : Nat) : Int) = _; rw [hjc]
        have hw2 : Wn (rfS r (cCpA (smo τ q (τ 0 0) n p w c) b' b) b' q (k + 1)) b' (200000 + 40000 * ((k + 1 : Nat) : Int)) := by rw [eh]; exact hw1.le (by omega)
        have ih2 := ih (k + 1) (by omega) hw2 (by omega)
        rw [eh, ec] at ih2
        exact ih2
  have hW0_ : Wn (cCpA (smo τ q (τ 0 0) n p w c) b' b) b' (200000 + 40000 * ((0 : Nat) : Int)) := hW20.le (by omega)
  exact LP28 _ 0 hn8.1 hW0_ (Nat.lt_succ_self _)
