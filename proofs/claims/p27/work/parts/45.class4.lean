def cPl (τ : sT) (b q : Nat) (c : Int) : sT := su (su (su (cPut (su τ 35 q c) b q c) 50 0 (cPut (su τ 35 q c) b q c 50 0 + 1)) 53 0 (cPut (su τ 35 q c) b q c 53 0 + 1)) 0 0 (cPut (su τ 35 q c) b q c 0 0 + 1)
def cTo (τ : sT) (b m : Nat) : sT := su (su (cClr τ b m) 50 0 (cClr τ b m 50 0 + 1)) 53 0 (cClr τ b m 53 0 - 1)
def cAr (τ : sT) (q : Nat) (row s x y : Int) : sT := su (su (sro τ q row s x y) 52 0 (τ 52 0 + 1)) 55 0 (τ 55 0 + 1)
-- X4_place
set_option maxRecDepth 100000 in
set_option maxHeartbeats 8000000 in
theorem k_X4_place (l : Launch) (g : gT) {P K : Nat → Nat} {r : Nat → Int → Option Nat} {cp : Nat → Nat} {b b' : Nat} {τ : sT} (hk : cok P K cp) (hb : b = 5 ∨ b = 12) (hb2 : b' = 5 ∨ b' = 12) (hV : CV K r cp τ) (hW : Wb τ b) (hPC : PC r τ) (n p w c : Int) (hn : -2147483648 ≤ n ∧ n ≤ 2147483647) (hp : -2147483648 ≤ p ∧ p ≤ 2147483647) (hw : -2147483648 ≤ w ∧ w ≤ 2147483647) (hc : -2147483648 ≤ c ∧ c ≤ 2147483647) : CM l g yX4_place cX4_place 7 (some .int) ({ frames := 12, cells := 6, slots := 181, locals := 198 }) [.ref (P 0), .int (iI (n)), .int (iI (p)), .int (iI (w)), .int (iI (c))] (cheap g P K r cp b b' τ) (fun v h1 => v = some (.int (iI (τ 0 0))) ∧ cKD n p w c ∧ τ 53 0 < 60 ∧ ∃ (q ed cap : Nat) (r1 : Int → Option Nat), cheap g P K r cp b b' τ q = none ∧ (cFF r (smo τ q (τ 0 0) n p w c) b q) ≠ -1 ∧ h1 = cheap g (kup P 23 ed) (kup K q 1) (rup r 0 r1) (kup cp 0 cap) b b' (cPl (smo τ q (τ 0 0) n p w c) b q (cFF r (smo τ q (τ 0 0) n p w c) b q)) ∧ cok (kup P 23 ed) (kup K q 1) (kup cp 0 cap) ∧ τ 53 0 + 1 ≤ cap ∧ cap ≤ 150 ∧ r1 (τ 53 0) = some q ∧ ∀ j, 0 ≤ j → j < τ 53 0 → r1 j = r 0 j) (fun E h1 => h1 = cheap g P K r cp b b' τ ∧ ((E = "java/lang/IllegalArgumentException" ∧ ¬ cKD n p w c) ∨ (E = "java/lang/IllegalStateException" ∧ cKD n p w c ∧ (60 ≤ τ 53 0 ∨ ∃ q, K q ≠ 1 ∧ K q ≠ 2 ∧ (cFF r (smo τ q (τ 0 0) n p w c) b q) = -1)))) := by
  refine CM.of (lo := [some (.ref (P 0)), some (.int (iI (n))), some (.int (iI (p))), some (.int (iI (w))), some (.int (iI (c))), none, none]) (by decide) (Nat.le_of_ble_eq_true rfl) (by simp [Value.category]) rfl ?_
  intro pX eX sX mX bX tX cX AX F htab hmn
  have F : Fx pX l sX mX ([.ref (P 0), .int (iI (n)), .int (iI (p)), .int (iI (w)), .int (iI (c))] : List Value).toArray tX cX cX4_place 7 (some .int) RX4 g AX := F
  have hM := hV.1
  have hR := hV.2.1
  have hL0 := hV.2.2.1
  have hL1 := hV.2.2.2.1
  have hL2 := hV.2.2.2.2.1
  have hS20 := hV.2.2.2.2.2.1
  have hS21 := hV.2.2.2.2.2.2.1
  have hS22 := hV.2.2.2.2.2.2.2.1
  have hS2 := hV.2.2.2.2.2.2.2.2.1
  have hn8 : 0 ≤ τ 55 0 ∧ τ 55 0 ≤ 8 := ⟨hL2.1, hL2.2.2.2.1⟩
  have hn60 : 0 ≤ τ 53 0 ∧ τ 53 0 ≤ 60 := ⟨hL0.1, hL0.2.2.2.1⟩
  have hWb1 := hW.1
  have hWb2 := hW.2.1
  have hWb3 := hW.2.2.1
  have hWb5 := hW.2.2.2.1
  have hWb6 := hW.2.2.2.2
  have hb23 : b < 23 := by omega
  have hb23' : b' < 23 := by omega
  refine v_aload_n F (pc := 0) dX4_place_0 rfl ?_
  refine v_iload_n F (pc := 1) dX4_place_1 rfl ?_
  refine v_iload_n F (pc := 2) dX4_place_2 rfl ?_
  refine v_iload_n F (pc := 3) dX4_place_3 rfl ?_
  refine v_iload F (pc := 4) dX4_place_4 rfl ?_
  refine v_callV F (pc := 6) (As := [.int (iI (n)), .int (iI (p)), .int (iI (w)), .int (iI (c))]) (rest := []) ci_X4_111 ct_X4_newMachine cs_X4_newMachine (k_X4_newMachine l g hk hb hb2 hV hW hPC n p w c (by omega) (by omega) (by omega) (by omega)) dX4_place_6 (k0 := 7) rfl rfl (ch_0 hk) rfl rfl (Nat.le_of_ble_eq_true rfl) (Nat.le_of_ble_eq_true rfl) (Nat.le_of_ble_eq_true rfl) (Nat.le_of_ble_eq_true rfl) (Nat.le_of_ble_eq_true rfl) (fun v_ h_ hp_ => ?_) (fun E_ h_ hp_ => by obtain ⟨rfl, rfl, hc_⟩ := hp_; exact v_xout F.2.2.2.2.2.1 htab (Nat.le_of_ble_eq_true rfl) (Nat.le_of_ble_eq_true rfl) (⟨rfl, Or.inl ⟨rfl, hc_⟩⟩))
  obtain ⟨q, nq, rfl, rfl, hkd⟩ := hp_
  have hfr := ch_fresh hk nq
  have hkn : cok P (kup K q 1) cp := (ch_newm hk nq (τ 0 0) n p w c).1
  have hVn : CV (kup K q 1) r cp (smo τ q (τ 0 0) n p w c) := hV.newm hfr.2 hkd
  have hWn : Wb (smo τ q (τ 0 0) n p w c) b := Wb_smo hb hW _ _ _ _ _
  have hmqn := hVn.1 q (kup_s K q 1)
  have e55 : (smo τ q (τ 0 0) n p w c) 55 0 = τ 55 0 := rfl
  have e53 : (smo τ q (τ 0 0) n p w c) 53 0 = τ 53 0 := rfl
  refine v_astore F (pc := 9) (lo' := [some (.ref (P 0)), some (.int (iI (n))), some (.int (iI (p))), some (.int (iI (w))), some (.int (iI (c))), some (.ref q), none]) dX4_place_9 (Nat.le_of_ble_eq_true rfl) rfl ?_
  refine v_aload_n F (pc := 11) dX4_place_11 rfl ?_
  refine v_getf F (pc := 12) fd_X4_23_7 (v := .ref (P 3)) dX4_place_12 (ch_0 hkn) rfl ?_
  refine v_callVp F (pc := 15) (As := []) (rest := []) ci_X4_53 ct_Jx4a65c_size_8abf5 cs_Jx4a65c_size_8abf5 (k_Jx4a65c_size_8abf5 l g (n := τ 53 0) (ch_3 hkn)) dX4_place_15 (k0 := 2) rfl rfl (ch_3 hkn) rfl rfl (Nat.le_of_ble_eq_true rfl) (Nat.le_of_ble_eq_true rfl) (Nat.le_of_ble_eq_true rfl) (Nat.le_of_ble_eq_true rfl) (Nat.le_of_ble_eq_true rfl) ?_ (fun _ _ z => z.elim)
  refine v_bipush F (pc := 18) dX4_place_18 (by decide) ?_
  refine v_icmp_lt F (pc := 20) (a := τ 53 0) (b := 60) 33 dX4_place_20 (by decide) (by omega) (by omega) (fun c_1 => ?_) (fun c_1 => ?_)
  · refine v_aload_n F (pc := 33) dX4_place_33 rfl ?_
    refine v_getf F (pc := 34) fd_X4_35_7 (v := .ref (P b)) dX4_place_34 (ch_0 hkn) rfl ?_
    refine v_aload F (pc := 37) dX4_place_37 rfl ?_
    refine v_callVp F (pc := 39) (As := [.ref q]) (rest := []) ci_X4_117 ct_X0_firstFit cs_X0_firstFit (k_X0_firstFit l g hb hkn (τ := (smo τ q (τ 0 0) n p w c)) (K := (kup K q 1)) (r := r) (cp := cp) (b := b) (b' := b') hVn hWn (kup_s K q 1)) dX4_place_39 (k0 := 3) rfl rfl (ch_lo hkn hb) rfl rfl (Nat.le_of_ble_eq_true rfl) (Nat.le_of_ble_eq_true rfl) (Nat.le_of_ble_eq_true rfl) (Nat.le_of_ble_eq_true rfl) (Nat.le_of_ble_eq_true rfl) ?_ (fun _ _ z => z.elim)
    have rg_2 := cFF_rng (r := r) (τ := (smo τ q (τ 0 0) n p w c)) (w := b) (m := q) hVn (kup_s K q 1)
    refine v_istore F (pc := 42) (lo' := [some (.ref (P 0)), some (.int (iI (n))), some (.int (iI (p))), some (.int (iI (w))), some (.int (iI (c))), some (.ref q), some (.int (iI (cFF r (smo τ q (τ 0 0) n p w c) b q)))]) dX4_place_42 (Nat.le_of_ble_eq_true rfl) rfl ?_
    refine v_iload F (pc := 44) dX4_place_44 rfl ?_
    refine v_iconst F (pc := 46) dX4_place_46 ?_
    refine v_icmp_ne F (pc := 47) (a := cFF r (smo τ q (τ 0 0) n p w c) b q) (b := -1) 60 dX4_place_47 (by decide) (by omega) (by omega) (fun c_3 => ?_) (fun c_3 => ?_)
    · have hq9 := c_3
      refine v_aload F (pc := 60) dX4_place_60 rfl ?_
      refine v_iload F (pc := 62) dX4_place_62 rfl ?_
      refine v_putf F (pc := 64) fp_X4_123_4 dX4_place_64 (ch_m hkn (kup_s K q 1)) rfl rfl (Nat.le_of_ble_eq_true rfl) (h' := cheap g P (kup K q 1) r cp b b' (su (smo τ q (τ 0 0) n p w c) 35 q (cFF r (smo τ q (τ 0 0) n p w c) b q))) (cu_m5 hkn (kup_s K q 1) (cFF r (smo τ q (τ 0 0) n p w c) b q)) ?_
      refine v_aload_n F (pc := 67) dX4_place_67 rfl ?_
      refine v_getf F (pc := 68) fd_X4_35_7 (v := .ref (P b)) dX4_place_68 (ch_0 hkn) rfl ?_
      refine v_aload F (pc := 71) dX4_place_71 rfl ?_
      refine v_iload F (pc := 73) dX4_place_73 rfl ?_
      have e31 : (smo τ q (τ 0 0) n p w c) 31 (q : Int) = n := iup_s _ _ _
      have hc0 : 0 ≤ (cFF r (smo τ q (τ 0 0) n p w c) b q) ∧ (cFF r (smo τ q (τ 0 0) n p w c) b q) + n ≤ 160 := by omega
      have hmqc : Mb (su (smo τ q (τ 0 0) n p w c) 35 q (cFF r (smo τ q (τ 0 0) n p w c) b q)) q := Mb_su (Or.inl rfl) (by omega) hmqn
      have e31c : su (smo τ q (τ 0 0) n p w c) 35 q (cFF r (smo τ q (τ 0 0) n p w c) b q) 31 (q : Int) = n := iup_s _ _ _
      have hputc : 0 ≤ (cFF r (smo τ q (τ 0 0) n p w c) b q) ∧ (cFF r (smo τ q (τ 0 0) n p w c) b q) + su (smo τ q (τ 0 0) n p w c) 35 q (cFF r (smo τ q (τ 0 0) n p w c) b q) 31 (q : Int) ≤ 160 := by rw [e31c]; exact hc0
      refine v_callVn F (pc := 75) (As := [.ref q, .int (iI (cFF r (smo τ q (τ 0 0) n p w c) b q))]) (rest := []) ci_X4_126 ct_X0_put cs_X0_put (k_X0_put l g hb hkn (τ := su (smo τ q (τ 0 0) n p w c) 35 q (cFF r (smo τ q (τ 0 0) n p w c) b q)) (K := (kup K q 1)) (r := r) (cp := cp) (b := b) (b' := b') (kup_s K q 1) hmqc (cFF r (smo τ q (τ 0 0) n p w c) b q) hputc) dX4_place_75 (k0 := 3) rfl rfl (ch_lo hkn hb) rfl rfl (Nat.le_of_ble_eq_true rfl) (Nat.le_of_ble_eq_true rfl) (Nat.le_of_ble_eq_true rfl) (Nat.le_of_ble_eq_true rfl) (Nat.le_of_ble_eq_true rfl) ?_ (fun _ _ z => z.elim)
      refine v_aload_n F (pc := 78) dX4_place_78 rfl ?_
      refine v_getf F (pc := 79) fd_X4_23_7 (v := .ref (P 3)) dX4_place_79 (ch_0 hkn) rfl ?_
      refine v_aload F (pc := 82) dX4_place_82 rfl ?_
      have hV4 : CV (kup K q 1) r cp (cPut (su (smo τ q (τ 0 0) n p w c) 35 q (cFF r (smo τ q (τ 0 0) n p w c) b q)) b q (cFF r (smo τ q (τ 0 0) n p w c) b q)) := (hVn.cell (Or.inl rfl) (by omega)).of (fun f hf => cPut_fix hb hf)
      refine v_callV F (pc := 84) (As := [.ref q]) (rest := []) ci_X4_69 ct_Jx4a65c_add_9ea2d cs_Jx4a65c_add_9ea2d (kl_add0 l g (τ := (cPut (su (smo τ q (τ 0 0) n p w c) 35 q (cFF r (smo τ q (τ 0 0) n p w c) b q)) b q (cFF r (smo τ q (τ 0 0) n p w c) b q))) (r := r) (cp := cp) hkn hb23 hb23' hV4.2.2.1 (kup_s K q 1)) dX4_place_84 (k0 := 2) rfl rfl (ch_3 hkn) rfl rfl (Nat.le_of_ble_eq_true rfl) (Nat.le_of_ble_eq_true rfl) (Nat.le_of_ble_eq_true rfl) (Nat.le_of_ble_eq_true rfl) (Nat.le_of_ble_eq_true rfl) (fun v_ h_ hp_ => ?_) (fun _ _ z => z.elim)
      obtain ⟨rfl, ed_a, cap_a, r1_a, rfl, hk_a, ha1, ha2, ha3⟩ := hp_
      refine v_pop F (pc := 87) dX4_place_87 rfl ?_
      refine v_aload_n F (pc := 88) dX4_place_88 rfl ?_
      refine v_dup F (pc := 89) dX4_place_89 rfl ?_
      refine v_getf F (pc := 90) fd_X4_42_7 (v := .int (iI ((cPut (su (smo τ q (τ 0 0) n p w c) 35 q (cFF r (smo τ q (τ 0 0) n p w c) b q)) b q (cFF r (smo τ q (τ 0 0) n p w c) b q)) 0 0))) dX4_place_90 (ch_0 hk_a) rfl ?_
      refine v_iconst F (pc := 93) dX4_place_93 ?_
      refine v_iadd F (pc := 94) (a := (cPut (su (smo τ q (τ 0 0) n p w c) 35 q (cFF r (smo τ q (τ 0 0) n p w c) b q)) b q (cFF r (smo τ q (τ 0 0) n p w c) b q)) 0 0) (b := 1) dX4_place_94 ?_
      refine v_putf F (pc := 95) fp_X4_42_7 dX4_place_95 (ch_0 hk_a) rfl rfl (Nat.le_of_ble_eq_true rfl) (h' := cheap g (kup P 23 ed_a) (kup K q 1) (rup r 0 r1_a) (kup cp 0 cap_a) b b' (su (su (su (cPut (su (smo τ q (τ 0 0) n p w c) 35 q (cFF r (smo τ q (τ 0 0) n p w c) b q)) b q (cFF r (smo τ q (τ 0 0) n p w c) b q)) 50 0 ((cPut (su (smo τ q (τ 0 0) n p w c) 35 q (cFF r (smo τ q (τ 0 0) n p w c) b q)) b q (cFF r (smo τ q (τ 0 0) n p w c) b q)) 50 0 + 1)) 53 0 ((cPut (su (smo τ q (τ 0 0) n p w c) 35 q (cFF r (smo τ q (τ 0 0) n p w c) b q)) b q (cFF r (smo τ q (τ 0 0) n p w c) b q)) 53 0 + 1)) 0 0 (((cPut (su (smo τ q (τ 0 0) n p w c) 35 q (cFF r (smo τ q (τ 0 0) n p w c) b q)) b q (cFF r (smo τ q (τ 0 0) n p w c) b q)) 0 0) + 1))) (cu_nn hk_a (((cPut (su (smo τ q (τ 0 0) n p w c) 35 q (cFF r (smo τ q (τ 0 0) n p w c) b q)) b q (cFF r (smo τ q (τ 0 0) n p w c) b q)) 0 0) + 1)) ?_
      refine v_aload F (pc := 98) dX4_place_98 rfl ?_
      refine v_getf F (pc := 100) fd_X4_130_4 (v := .int (iI ((cPut (su (smo τ q (τ 0 0) n p w c) 35 q (cFF r (smo τ q (τ 0 0) n p w c) b q)) b q (cFF r (smo τ q (τ 0 0) n p w c) b q)) 30 (q : Nat)))) dX4_place_100 (ch_m hk_a (kup_s K q 1)) rfl ?_
      refine v_iret F (pc := 103) (z := (iI ((cPut (su (smo τ q (τ 0 0) n p w c) 35 q (cFF r (smo τ q (τ 0 0) n p w c) b q)) b q (cFF r (smo τ q (τ 0 0) n p w c) b q)) 30 (q : Nat)))) dX4_place_103 rfl rfl (Nat.le_of_ble_eq_true rfl) (Nat.le_of_ble_eq_true rfl) ?_
      have e30 : (cPut (su (smo τ q (τ 0 0) n p w c) 35 q (cFF r (smo τ q (τ 0 0) n p w c) b q)) b q (cFF r (smo τ q (τ 0 0) n p w c) b q)) 30 (q : Int) = τ 0 0 := by
        rw [show (cPut (su (smo τ q (τ 0 0) n p w c) 35 q (cFF r (smo τ q (τ 0 0) n p w c) b q)) b q (cFF r (smo τ q (τ 0 0) n p w c) b q)) 30 = su (smo τ q (τ 0 0) n p w c) 35 q (cFF r (smo τ q (τ 0 0) n p w c) b q) 30 from cPut_fix hb rfl]
        exact iup_s _ _ _
      have e53 : (cPut (su (smo τ q (τ 0 0) n p w c) 35 q (cFF r (smo τ q (τ 0 0) n p w c) b q)) b q (cFF r (smo τ q (τ 0 0) n p w c) b q)) 53 = τ 53 := cPut_fix hb rfl
      rw [e53] at ha1 ha3
      exact ⟨congrArg (fun z => some (Value.int (iI z))) e30, hkd, by omega, q, ed_a, cap_a, r1_a, nq, hq9, rfl, hk_a, ha1, ha2, ha3.1, ha3.2⟩
    · have hq9 := c_3
      refine V.sub (h' := cheap g P K r cp b b' τ) ?_ (ch_subm hk nq _ _ _ _ _)
      refine v_throw F (pc := 50) (text := "the machine fits nowhere") fit_IllegalStateException th_fit tk_X4_57 ti_IllegalStateException (by decide) th_X4_57_61 tg_X4_57_61 htab dX4_place_50 dX4_place_53 dX4_place_54 dX4_place_56 dX4_place_59 (Nat.le_of_ble_eq_true rfl) (Nat.le_of_ble_eq_true rfl) (Nat.le_of_ble_eq_true rfl) (Nat.le_of_ble_eq_true rfl) (Nat.le_of_ble_eq_true rfl) (Nat.le_of_ble_eq_true rfl) ?_
      exact ⟨rfl, Or.inr ⟨rfl, hkd, Or.inr ⟨q, hfr.2.1, hfr.2.2, hq9⟩⟩⟩
  · have hq8 := c_1
    refine V.sub (h' := cheap g P K r cp b b' τ) ?_ (ch_subm hk nq _ _ _ _ _)
    refine v_throw F (pc := 23) (text := "no more machines") fit_IllegalStateException th_fit tk_X4_57 ti_IllegalStateException (by decide) th_X4_57_61 tg_X4_57_61 htab dX4_place_23 dX4_place_26 dX4_place_27 dX4_place_29 dX4_place_32 (Nat.le_of_ble_eq_true rfl) (Nat.le_of_ble_eq_true rfl) (Nat.le_of_ble_eq_true rfl) (Nat.le_of_ble_eq_true rfl) (Nat.le_of_ble_eq_true rfl) (Nat.le_of_ble_eq_true rfl) ?_
    exact ⟨rfl, Or.inr ⟨rfl, hkd, Or.inl (by omega)⟩⟩
-- X4_takeOut
set_option maxRecDepth 100000 in
set_option maxHeartbeats 8000000 in
theorem k_X4_takeOut (l : Launch) (g : gT) {P K : Nat → Nat} {r : Nat → Int → Option Nat} {cp : Nat → Nat} {b b' : Nat} {τ : sT} (hk : cok P K cp) (hb : b = 5 ∨ b = 12) (hb2 : b' = 5 ∨ b' = 12) (hV : CV K r cp τ) (hW : Wb τ b) (hPC : PC r τ) (num : Int) (hnum : -2147483648 ≤ num ∧ num ≤ 2147483647) : CM l g yX4_takeOut cX4_takeOut 4 (some .int) ({ frames := 11, cells := 1, slots := 6, locals := 162 }) [.ref (P 0), .int (iI (num))] (cheap g P K r cp b b' τ) (fun v h1 => v = some (.int (iI (τ 35 (ad r 0 (cIx r τ num)) / 20))) ∧ 0 ≤ cIx r τ num ∧ cIx r τ num < τ 53 0 ∧ ∃ (ed cap : Nat) (r1 : Int → Option Nat), h1 = cheap g (kup P 23 ed) K (rup r 0 r1) (kup cp 0 cap) b b' (cTo τ b (ad r 0 (cIx r τ num))) ∧ cok (kup P 23 ed) K (kup cp 0 cap) ∧ τ 53 0 - 1 ≤ cap ∧ cap ≤ 150 ∧ (∀ j, 0 ≤ j → j < cIx r τ num → r1 j = r 0 j) ∧ ∀ j, cIx r τ num ≤ j → j < τ 53 0 - 1 → r1 j = r 0 (j + 1)) (fun E h1 => E = "java/lang/IndexOutOfBoundsException" ∧ h1 = cheap g P K r cp b b' τ ∧ cIx r τ num = -1) := by
  refine CM.of (lo := [some (.ref (P 0)), some (.int (iI (num))), none, none]) (by decide) (Nat.le_of_ble_eq_true rfl) (by simp [Value.category]) rfl ?_
  intro pX eX sX mX bX tX cX AX F htab hmn
  have F : Fx pX l sX mX ([.ref (P 0), .int (iI (num))] : List Value).toArray tX cX cX4_takeOut 4 (some .int) RX4 g AX := F
  have hM := hV.1
  have hR := hV.2.1
  have hL0 := hV.2.2.1
  have hL1 := hV.2.2.2.1
  have hL2 := hV.2.2.2.2.1
  have hS20 := hV.2.2.2.2.2.1
  have hS21 := hV.2.2.2.2.2.2.1
  have hS22 := hV.2.2.2.2.2.2.2.1
  have hS2 := hV.2.2.2.2.2.2.2.2.1
  have hn8 : 0 ≤ τ 55 0 ∧ τ 55 0 ≤ 8 := ⟨hL2.1, hL2.2.2.2.1⟩
  have hn60 : 0 ≤ τ 53 0 ∧ τ 53 0 ≤ 60 := ⟨hL0.1, hL0.2.2.2.1⟩
  have hWb1 := hW.1
  have hWb2 := hW.2.1
  have hWb3 := hW.2.2.1
  have hWb5 := hW.2.2.2.1
  have hWb6 := hW.2.2.2.2
  have hb23 : b < 23 := by omega
  have hb23' : b' < 23 := by omega
  refine v_aload_n F (pc := 0) dX4_takeOut_0 rfl ?_
  refine v_iload_n F (pc := 1) dX4_takeOut_1 rfl ?_
  refine v_callV F (pc := 2) (As := [.int (iI (num))]) (rest := []) ci_X4_133 ct_X4_indexOfPlaced cs_X4_indexOfPlaced (k_X4_indexOfPlaced l g hk hb hb2 hV hW hPC num (by omega)) dX4_takeOut_2 (k0 := 7) rfl rfl (ch_0 hk) rfl rfl (Nat.le_of_ble_eq_true rfl) (Nat.le_of_ble_eq_true rfl) (Nat.le_of_ble_eq_true rfl) (Nat.le_of_ble_eq_true rfl) (Nat.le_of_ble_eq_true rfl) (fun v_ h_ hp_ => ?_) (fun E_ h_ hp_ => by obtain ⟨rfl, rfl, hc_⟩ := hp_; exact v_xout F.2.2.2.2.2.1 htab (Nat.le_of_ble_eq_true rfl) (Nat.le_of_ble_eq_true rfl) (⟨rfl, rfl, hc_⟩))
  obtain ⟨rfl, rfl, hix0, hix1⟩ := hp_
  refine v_istore_n F (pc := 5) (lo' := [some (.ref (P 0)), some (.int (iI (num))), some (.int (iI (cIx r τ num))), none]) dX4_takeOut_5 (Nat.le_of_ble_eq_true rfl) rfl ?_
  refine v_aload_n F (pc := 6) dX4_takeOut_6 rfl ?_
  refine v_getf F (pc := 7) fd_X4_23_7 (v := .ref (P 3)) dX4_takeOut_7 (ch_0 hk) rfl ?_
  refine v_iload_n F (pc := 10) dX4_takeOut_10 rfl ?_
  refine v_callVp F (pc := 11) (As := [.int (iI (cIx r τ num))]) (rest := []) ci_X4_101 ct_Jx4a65c_get_915e3 cs_Jx4a65c_get_915e3 (kl_get0 l g (τ := τ) (r := r) (cp := cp) hk hL0 (k := cIx r τ num) (by omega) (show (cIx r τ num : Int) < τ 53 0 by omega)) dX4_takeOut_11 (k0 := 2) rfl rfl (ch_3 hk) rfl rfl (Nat.le_of_ble_eq_true rfl) (Nat.le_of_ble_eq_true rfl) (Nat.le_of_ble_eq_true rfl) (Nat.le_of_ble_eq_true rfl) (Nat.le_of_ble_eq_true rfl) ?_ (fun _ _ z => z.elim)
  have kq_1 : K (ad r 0 (cIx r τ num)) = 1 := (hL0.2.2.2.2 (cIx r τ num) (by omega) (show (cIx r τ num : Int) < τ 53 0 by omega)).2
  have kq_1b := hM _ kq_1
  refine v_castS F (pc := 14) (ci := 4) rfl tk_X4_105 dX4_takeOut_14 (ch_m hk kq_1) ?_
  refine v_astore_n F (pc := 17) (lo' := [some (.ref (P 0)), some (.int (iI (num))), some (.int (iI (cIx r τ num))), some (.ref (ad r 0 (cIx r τ num)))]) dX4_takeOut_17 (Nat.le_of_ble_eq_true rfl) rfl ?_
  have hg := (hL0.2.2.2.2 _ hix0 hix1).2
  have hgb := hM _ hg
  have hpc := hPC _ hix0 hix1
  refine v_aload_n F (pc := 18) dX4_takeOut_18 rfl ?_
  refine v_getf F (pc := 19) fd_X4_35_7 (v := .ref (P b)) dX4_takeOut_19 (ch_0 hk) rfl ?_
  refine v_aload_n F (pc := 22) dX4_takeOut_22 rfl ?_
  refine v_callVn F (pc := 23) (As := [.ref (ad r 0 (cIx r τ num))]) (rest := []) ci_X4_136 ct_X0_clear cs_X0_clear (k_X0_clear l g hb hk (τ := τ) (K := K) (r := r) (cp := cp) (b := b) (b' := b') kq_1 hgb (by omega)) dX4_takeOut_23 (k0 := 3) rfl rfl (ch_lo hk hb) rfl rfl (Nat.le_of_ble_eq_true rfl) (Nat.le_of_ble_eq_true rfl) (Nat.le_of_ble_eq_true rfl) (Nat.le_of_ble_eq_true rfl) (Nat.le_of_ble_eq_true rfl) ?_ (fun _ _ z => z.elim)
  have hV4 : CV K r cp (cClr τ b (ad r 0 (cIx r τ num))) := hV.of (fun f hf => cClr_fix hb hf)
  have e53 : (cClr τ b (ad r 0 (cIx r τ num))) 53 = τ 53 := cClr_fix hb rfl
  have hremi : 0 ≤ cIx r τ num ∧ cIx r τ num < (cClr τ b (ad r 0 (cIx r τ num))) 53 0 := by rw [e53]; exact ⟨hix0, hix1⟩
  have e35 : (cClr τ b (ad r 0 (cIx r τ num))) 35 = τ 35 := cClr_fix hb rfl
  refine v_aload_n F (pc := 26) dX4_takeOut_26 rfl ?_
  refine v_getf F (pc := 27) fd_X4_23_7 (v := .ref (P 3)) dX4_takeOut_27 (ch_0 hk) rfl ?_
  refine v_iload_n F (pc := 30) dX4_takeOut_30 rfl ?_
  refine v_callV F (pc := 31) (As := [.int (iI (cIx r τ num))]) (rest := []) ci_X4_140 ct_Jx4a65c_remove_915e3 cs_Jx4a65c_remove_915e3 (kl_rem0 l g (τ := (cClr τ b (ad r 0 (cIx r τ num)))) (r := r) (cp := cp) hk hb23 hb23' hV4.2.2.1 (i := cIx r τ num) hremi) dX4_takeOut_31 (k0 := 2) rfl rfl (ch_3 hk) rfl rfl (Nat.le_of_ble_eq_true rfl) (Nat.le_of_ble_eq_true rfl) (Nat.le_of_ble_eq_true rfl) (Nat.le_of_ble_eq_true rfl) (Nat.le_of_ble_eq_true rfl) (fun v_ h_ hp_ => ?_) (fun _ _ z => z.elim)
  obtain ⟨rfl, ed_a, cap_a, r1_a, rfl, hk_a, ha1, ha2, ha3⟩ := hp_
  refine v_pop F (pc := 34) dX4_takeOut_34 rfl ?_
  refine v_aload_n F (pc := 35) dX4_takeOut_35 rfl ?_
  refine v_getf F (pc := 36) fd_X4_123_4 (v := .int (iI ((cClr τ b (ad r 0 (cIx r τ num))) 35 (ad r 0 (cIx r τ num))))) dX4_takeOut_36 (ch_m hk_a kq_1) rfl ?_
  refine V.to (lo' := [some (.ref (P 0)), some (.int (iI (num))), some (.int (iI (cIx r τ num))), some (.ref (ad r 0 (cIx r τ num)))]) (st' := [.int (iI (τ 35 (ad r 0 (cIx r τ num))))]) ?_ rfl rfl (by rw [e35]; first | done | rfl)
  refine v_callSp F (pc := 39) (As := [.int (iI (τ 35 (ad r 0 (cIx r τ num))))]) (rest := []) ci_X4_143 ct_X4_rackOfCell (k_X4_rackOfCell l g (τ 35 (ad r 0 (cIx r τ num))) (by omega)) dX4_takeOut_39 rfl rfl (Nat.le_of_ble_eq_true rfl) (Nat.le_of_ble_eq_true rfl) (Nat.le_of_ble_eq_true rfl) (Nat.le_of_ble_eq_true rfl) (Nat.le_of_ble_eq_true rfl) ?_ (fun _ _ z => z.elim)
  refine v_iret F (pc := 42) (z := (iI ((τ 35 (ad r 0 (cIx r τ num))) / 20))) dX4_takeOut_42 rfl rfl (Nat.le_of_ble_eq_true rfl) (Nat.le_of_ble_eq_true rfl) ?_
  rw [e53] at ha1 ha3
  exact ⟨rfl, hix0, hix1, ed_a, cap_a, r1_a, rfl, hk_a, ha1, ha2, ha3.1, ha3.2⟩
-- X4_cord
set_option maxRecDepth 100000 in
set_option maxHeartbeats 8000000 in
theorem k_X4_cord (l : Launch) (g : gT) {P K : Nat → Nat} {r : Nat → Int → Option Nat} {cp : Nat → Nat} {b b' : Nat} {τ : sT} (hk : cok P K cp) (hb : b = 5 ∨ b = 12) (hb2 : b' = 5 ∨ b' = 12) (hV : CV K r cp τ) (hW : Wb τ b) (hPC : PC r τ) (num : Int) (hnum : -2147483648 ≤ num ∧ num ≤ 2147483647) (c : Int) (hc : -2147483648 ≤ c ∧ c ≤ 2147483647) : CM l g yX4_cord cX4_cord 5 (some .int) ({ frames := 12, cells := 3, slots := 18, locals := 183 }) [.ref (P 0), .int (iI (num)), .int (iI (c))] (cheap g P K r cp b b' τ) (fun v h1 => v = some (.int (iI (τ 34 (ad r 0 (cIx r τ num))))) ∧ (0 ≤ cIx r τ num ∧ cIx r τ num < τ 53 0) ∧ (0 ≤ c ∧ c ≤ 2) ∧ cBC r τ b (ad r 0 (cIx r τ num)) c = true ∧ h1 = cheap g P K r cp b b' (cCC τ b (ad r 0 (cIx r τ num)) c)) (fun E h1 => h1 = cheap g P K r cp b b' τ ∧ ((E = "java/lang/IndexOutOfBoundsException" ∧ cIx r τ num = -1) ∨ (E = "java/lang/IllegalArgumentException" ∧ (0 ≤ cIx r τ num ∧ cIx r τ num < τ 53 0) ∧ ¬ (0 ≤ c ∧ c ≤ 2)) ∨ (E = "java/lang/IllegalStateException" ∧ (0 ≤ cIx r τ num ∧ cIx r τ num < τ 53 0) ∧ (0 ≤ c ∧ c ≤ 2) ∧ cBC r τ b (ad r 0 (cIx r τ num)) c = false))) := by
  refine CM.of (lo := [some (.ref (P 0)), some (.int (iI (num))), some (.int (iI (c))), none, none]) (by decide) (Nat.le_of_ble_eq_true rfl) (by simp [Value.category]) rfl ?_
  intro pX eX sX mX bX tX cX AX F htab hmn
  have F : Fx pX l sX mX ([.ref (P 0), .int (iI (num)), .int (iI (c))] : List Value).toArray tX cX cX4_cord 5 (some .int) RX4 g AX := F
  have hM := hV.1
  have hR := hV.2.1
  have hL0 := hV.2.2.1
  have hL1 := hV.2.2.2.1
  have hL2 := hV.2.2.2.2.1
  have hS20 := hV.2.2.2.2.2.1
  have hS21 := hV.2.2.2.2.2.2.1
  have hS22 := hV.2.2.2.2.2.2.2.1
  have hS2 := hV.2.2.2.2.2.2.2.2.1
  have hn8 : 0 ≤ τ 55 0 ∧ τ 55 0 ≤ 8 := ⟨hL2.1, hL2.2.2.2.1⟩
  have hn60 : 0 ≤ τ 53 0 ∧ τ 53 0 ≤ 60 := ⟨hL0.1, hL0.2.2.2.1⟩
  have hWb1 := hW.1
  have hWb2 := hW.2.1
  have hWb3 := hW.2.2.1
  have hWb5 := hW.2.2.2.1
  have hWb6 := hW.2.2.2.2
  refine v_aload_n F (pc := 0) dX4_cord_0 rfl ?_
  refine v_iload_n F (pc := 1) dX4_cord_1 rfl ?_
  refine v_callV F (pc := 2) (As := [.int (iI (num))]) (rest := []) ci_X4_146 ct_X4_requireMachine cs_X4_requireMachine (k_X4_requireMachine l g hk hb hb2 hV hW hPC num (by omega)) dX4_cord_2 (k0 := 7) rfl rfl (ch_0 hk) rfl rfl (Nat.le_of_ble_eq_true rfl) (Nat.le_of_ble_eq_true rfl) (Nat.le_of_ble_eq_true rfl) (Nat.le_of_ble_eq_true rfl) (Nat.le_of_ble_eq_true rfl) (fun v_ h_ hp_ => ?_) (fun E_ h_ hp_ => by obtain ⟨rfl, rfl, hc_⟩ := hp_; exact v_xout F.2.2.2.2.2.1 htab (Nat.le_of_ble_eq_true rfl) (Nat.le_of_ble_eq_true rfl) (⟨rfl, Or.inl ⟨rfl, hc_⟩⟩))
  obtain ⟨rfl, rfl, hix0, hix1⟩ := hp_
  have hmq : K (ad r 0 (cIx r τ num)) = 1 := (hL0.2.2.2.2 _ hix0 hix1).2
  have hmqb := hM _ hmq
  have hpc := hPC _ hix0 hix1
  refine v_astore_n F (pc := 5) (lo' := [some (.ref (P 0)), some (.int (iI (num))), some (.int (iI (c))), some (.ref (ad r 0 (cIx r τ num))), none]) dX4_cord_5 (Nat.le_of_ble_eq_true rfl) rfl ?_
  refine v_iload_n F (pc := 6) dX4_cord_6 rfl ?_
  refine v_iconst F (pc := 7) dX4_cord_7 ?_
  refine v_iconst F (pc := 8) dX4_cord_8 ?_
  refine v_callS F (pc := 9) (As := [.int (iI (c)), .int (iI (0)), .int (iI (2))]) (rest := []) ci_X4_46 ct_X4_requireRange (k_X4_requireRange l g c 0 2 (by omega) (by omega) (by omega)) dX4_cord_9 rfl rfl (Nat.le_of_ble_eq_true rfl) (Nat.le_of_ble_eq_true rfl) (Nat.le_of_ble_eq_true rfl) (Nat.le_of_ble_eq_true rfl) (Nat.le_of_ble_eq_true rfl) (fun v_ h_ hp_ => ?_) (fun E_ h_ hp_ => by obtain ⟨rfl, rfl, hc_⟩ := hp_; exact v_xout F.2.2.2.2.2.1 htab (Nat.le_of_ble_eq_true rfl) (Nat.le_of_ble_eq_true rfl) (⟨rfl, Or.inr (Or.inl ⟨rfl, ⟨hix0, hix1⟩, hc_⟩)⟩))
  obtain ⟨rfl, rfl, rr_1a, rr_1b⟩ := hp_
  refine v_aload_n F (pc := 12) dX4_cord_12 rfl ?_
  refine v_getf F (pc := 13) fd_X4_35_7 (v := .ref (P b)) dX4_cord_13 (ch_0 hk) rfl ?_
  refine v_aload_n F (pc := 16) dX4_cord_16 rfl ?_
  refine v_iload_n F (pc := 17) dX4_cord_17 rfl ?_
  refine v_callVp F (pc := 18) (As := [.ref (ad r 0 (cIx r τ num)), .int (iI (c))]) (rest := []) ci_X4_150 ct_X0_bearsCords cs_X0_bearsCords (k_X0_bearsCords l g hb hk (τ := τ) (K := K) (r := r) (cp := cp) (b := b) (b' := b') hV hW hmq c (by omega) (by omega)) dX4_cord_18 (k0 := 3) rfl rfl (ch_lo hk hb) rfl rfl (Nat.le_of_ble_eq_true rfl) (Nat.le_of_ble_eq_true rfl) (Nat.le_of_ble_eq_true rfl) (Nat.le_of_ble_eq_true rfl) (Nat.le_of_ble_eq_true rfl) ?_ (fun _ _ z => z.elim)
  refine v_if_neB F (pc := 21) (b := (cBC r τ b (ad r 0 (cIx r τ num)) c)) 34 dX4_cord_21 (by decide) (fun c_2 => ?_) (fun c_2 => ?_)
  · have hq9 := c_2
    refine v_aload_n F (pc := 34) dX4_cord_34 rfl ?_
    refine v_getf F (pc := 35) fd_X4_156_4 (v := .int (iI (τ 34 (ad r 0 (cIx r τ num))))) dX4_cord_35 (ch_m hk hmq) rfl ?_
    refine v_istore F (pc := 38) (lo' := [some (.ref (P 0)), some (.int (iI (num))), some (.int (iI (c))), some (.ref (ad r 0 (cIx r τ num))), some (.int (iI (τ 34 (ad r 0 (cIx r τ num)))))]) dX4_cord_38 (Nat.le_of_ble_eq_true rfl) rfl ?_
    refine v_aload_n F (pc := 40) dX4_cord_40 rfl ?_
    refine v_getf F (pc := 41) fd_X4_35_7 (v := .ref (P b)) dX4_cord_41 (ch_0 hk) rfl ?_
    refine v_aload_n F (pc := 44) dX4_cord_44 rfl ?_
    refine v_iload_n F (pc := 45) dX4_cord_45 rfl ?_
    refine v_callVn F (pc := 46) (As := [.ref (ad r 0 (cIx r τ num)), .int (iI (c))]) (rest := []) ci_X4_159 ct_X0_changeCords cs_X0_changeCords (k_X0_changeCords l g hb hk (τ := τ) (K := K) (r := r) (cp := cp) (b := b) (b' := b') hmq hmqb c (by omega) (by omega)) dX4_cord_46 (k0 := 3) rfl rfl (ch_lo hk hb) rfl rfl (Nat.le_of_ble_eq_true rfl) (Nat.le_of_ble_eq_true rfl) (Nat.le_of_ble_eq_true rfl) (Nat.le_of_ble_eq_true rfl) (Nat.le_of_ble_eq_true rfl) ?_ (fun _ _ z => z.elim)
    refine v_iload F (pc := 49) dX4_cord_49 rfl ?_
    refine v_iret F (pc := 51) (z := (iI (τ 34 (ad r 0 (cIx r τ num))))) dX4_cord_51 rfl rfl (Nat.le_of_ble_eq_true rfl) (Nat.le_of_ble_eq_true rfl) ?_
    exact ⟨rfl, ⟨hix0, hix1⟩, ⟨by omega, by omega⟩, hq9, rfl⟩
  · have hq9 := c_2
    refine v_throw F (pc := 24) (text := "the worst on a feed would be above its limit") fit_IllegalStateException th_fit tk_X4_57 ti_IllegalStateException (by decide) th_X4_57_61 tg_X4_57_61 htab dX4_cord_24 dX4_cord_27 dX4_cord_28 dX4_cord_30 dX4_cord_33 (Nat.le_of_ble_eq_true rfl) (Nat.le_of_ble_eq_true rfl) (Nat.le_of_ble_eq_true rfl) (Nat.le_of_ble_eq_true rfl) (Nat.le_of_ble_eq_true rfl) (Nat.le_of_ble_eq_true rfl) ?_
    exact ⟨rfl, Or.inr (Or.inr ⟨rfl, ⟨hix0, hix1⟩, ⟨by omega, by omega⟩, hq9⟩)⟩
-- X4_addRack
set_option maxRecDepth 100000 in
set_option maxHeartbeats 8000000 in
theorem k_X4_addRack (l : Launch) (g : gT) {P K : Nat → Nat} {r : Nat → Int → Option Nat} {cp : Nat → Nat} {b b' : Nat} {τ : sT} (hk : cok P K cp) (hb : b = 5 ∨ b = 12) (hb2 : b' = 5 ∨ b' = 12) (hV : CV K r cp τ) (hW : Wb τ b) (hPC : PC r τ) (row s x y : Int) (hrow : -2147483648 ≤ row ∧ row ≤ 2147483647) (hs : -2147483648 ≤ s ∧ s ≤ 2147483647) (hx : -2147483648 ≤ x ∧ x ≤ 2147483647) (hy : -2147483648 ≤ y ∧ y ≤ 2147483647) : CM l g yX4_addRack cX4_addRack 6 (some .int) ({ frames := 11, cells := 6, slots := 178, locals := 191 }) [.ref (P 0), .int (iI (row)), .int (iI (s)), .int (iI (x)), .int (iI (y))] (cheap g P K r cp b b' τ) (fun v h1 => v = some (.int (iI (τ 55 0))) ∧ ((0 ≤ row ∧ row ≤ 3) ∧ (1 ≤ s ∧ s ≤ 20) ∧ (0 ≤ x ∧ x ≤ 10000) ∧ (0 ≤ y ∧ y ≤ 10000)) ∧ τ 55 0 < 8 ∧ ∃ (q ed cap : Nat) (r1 : Int → Option Nat), cheap g P K r cp b b' τ q = none ∧ h1 = cheap g (kup P 25 ed) (kup K q 2) (rup r 2 r1) (kup cp 2 cap) b b' (cAr τ q row s x y) ∧ cok (kup P 25 ed) (kup K q 2) (kup cp 2 cap) ∧ τ 55 0 + 1 ≤ cap ∧ cap ≤ 150 ∧ r1 (τ 55 0) = some q ∧ ∀ j, 0 ≤ j → j < τ 55 0 → r1 j = r 2 j) (fun E h1 => h1 = cheap g P K r cp b b' τ ∧ ((E = "java/lang/IllegalArgumentException" ∧ ¬ ((0 ≤ row ∧ row ≤ 3) ∧ (1 ≤ s ∧ s ≤ 20) ∧ (0 ≤ x ∧ x ≤ 10000) ∧ (0 ≤ y ∧ y ≤ 10000))) ∨ (E = "java/lang/IllegalStateException" ∧ ((0 ≤ row ∧ row ≤ 3) ∧ (1 ≤ s ∧ s ≤ 20) ∧ (0 ≤ x ∧ x ≤ 10000) ∧ (0 ≤ y ∧ y ≤ 10000)) ∧ 8 ≤ τ 55 0))) := by
  refine CM.of (lo := [some (.ref (P 0)), some (.int (iI (row))), some (.int (iI (s))), some (.int (iI (x))), some (.int (iI (y))), none]) (by decide) (Nat.le_of_ble_eq_true rfl) (by simp [Value.category]) rfl ?_
  intro pX eX sX mX bX tX cX AX F htab hmn
  have F : Fx pX l sX mX ([.ref (P 0), .int (iI (row)), .int (iI (s)), .int (iI (x)), .int (iI (y))] : List Value).toArray tX cX cX4_addRack 6 (some .int) RX4 g AX := F
  have hM := hV.1
  have hR := hV.2.1
  have hL0 := hV.2.2.1
  have hL1 := hV.2.2.2.1
  have hL2 := hV.2.2.2.2.1
  have hS20 := hV.2.2.2.2.2.1
  have hS21 := hV.2.2.2.2.2.2.1
  have hS22 := hV.2.2.2.2.2.2.2.1
  have hS2 := hV.2.2.2.2.2.2.2.2.1
  have hn8 : 0 ≤ τ 55 0 ∧ τ 55 0 ≤ 8 := ⟨hL2.1, hL2.2.2.2.1⟩
  have hn60 : 0 ≤ τ 53 0 ∧ τ 53 0 ≤ 60 := ⟨hL0.1, hL0.2.2.2.1⟩
  have hWb1 := hW.1
  have hWb2 := hW.2.1
  have hWb3 := hW.2.2.1
  have hWb5 := hW.2.2.2.1
  have hWb6 := hW.2.2.2.2
  have hb23 : b < 23 := by omega
  have hb23' : b' < 23 := by omega
  refine v_iload_n F (pc := 0) dX4_addRack_0 rfl ?_
  refine v_iconst F (pc := 1) dX4_addRack_1 ?_
  refine v_iconst F (pc := 2) dX4_addRack_2 ?_
  refine v_callS F (pc := 3) (As := [.int (iI (row)), .int (iI (0)), .int (iI (3))]) (rest := []) ci_X4_46 ct_X4_requireRange (k_X4_requireRange l g row 0 3 (by omega) (by omega) (by omega)) dX4_addRack_3 rfl rfl (Nat.le_of_ble_eq_true rfl) (Nat.le_of_ble_eq_true rfl) (Nat.le_of_ble_eq_true rfl) (Nat.le_of_ble_eq_true rfl) (Nat.le_of_ble_eq_true rfl) (fun v_ h_ hp_ => ?_) (fun E_ h_ hp_ => by obtain ⟨rfl, rfl, hc_⟩ := hp_; exact v_xout F.2.2.2.2.2.1 htab (Nat.le_of_ble_eq_true rfl) (Nat.le_of_ble_eq_true rfl) (⟨rfl, Or.inl ⟨rfl, fun z_ => hc_ (by omega)⟩⟩))
  obtain ⟨rfl, rfl, rr_1a, rr_1b⟩ := hp_
  refine v_iload_n F (pc := 6) dX4_addRack_6 rfl ?_
  refine v_iconst F (pc := 7) dX4_addRack_7 ?_
  refine v_bipush F (pc := 8) dX4_addRack_8 (by decide) ?_
  refine v_callS F (pc := 10) (As := [.int (iI (s)), .int (iI (1)), .int (iI (20))]) (rest := []) ci_X4_46 ct_X4_requireRange (k_X4_requireRange l g s 1 20 (by omega) (by omega) (by omega)) dX4_addRack_10 rfl rfl (Nat.le_of_ble_eq_true rfl) (Nat.le_of_ble_eq_true rfl) (Nat.le_of_ble_eq_true rfl) (Nat.le_of_ble_eq_true rfl) (Nat.le_of_ble_eq_true rfl) (fun v_ h_ hp_ => ?_) (fun E_ h_ hp_ => by obtain ⟨rfl, rfl, hc_⟩ := hp_; exact v_xout F.2.2.2.2.2.1 htab (Nat.le_of_ble_eq_true rfl) (Nat.le_of_ble_eq_true rfl) (⟨rfl, Or.inl ⟨rfl, fun z_ => hc_ (by omega)⟩⟩))
  obtain ⟨rfl, rfl, rr_2a, rr_2b⟩ := hp_
  refine v_iload_n F (pc := 13) dX4_addRack_13 rfl ?_
  refine v_iconst F (pc := 14) dX4_addRack_14 ?_
  refine v_sipush F (pc := 15) dX4_addRack_15 (by decide) ?_
  refine v_callS F (pc := 18) (As := [.int (iI (x)), .int (iI (0)), .int (iI (10000))]) (rest := []) ci_X4_46 ct_X4_requireRange (k_X4_requireRange l g x 0 10000 (by omega) (by omega) (by omega)) dX4_addRack_18 rfl rfl (Nat.le_of_ble_eq_true rfl) (Nat.le_of_ble_eq_true rfl) (Nat.le_of_ble_eq_true rfl) (Nat.le_of_ble_eq_true rfl) (Nat.le_of_ble_eq_true rfl) (fun v_ h_ hp_ => ?_) (fun E_ h_ hp_ => by obtain ⟨rfl, rfl, hc_⟩ := hp_; exact v_xout F.2.2.2.2.2.1 htab (Nat.le_of_ble_eq_true rfl) (Nat.le_of_ble_eq_true rfl) (⟨rfl, Or.inl ⟨rfl, fun z_ => hc_ (by omega)⟩⟩))
  obtain ⟨rfl, rfl, rr_3a, rr_3b⟩ := hp_
  refine v_iload F (pc := 21) dX4_addRack_21 rfl ?_
  refine v_iconst F (pc := 23) dX4_addRack_23 ?_
  refine v_sipush F (pc := 24) dX4_addRack_24 (by decide) ?_
  refine v_callS F (pc := 27) (As := [.int (iI (y)), .int (iI (0)), .int (iI (10000))]) (rest := []) ci_X4_46 ct_X4_requireRange (k_X4_requireRange l g y 0 10000 (by omega) (by omega) (by omega)) dX4_addRack_27 rfl rfl (Nat.le_of_ble_eq_true rfl) (Nat.le_of_ble_eq_true rfl) (Nat.le_of_ble_eq_true rfl) (Nat.le_of_ble_eq_true rfl) (Nat.le_of_ble_eq_true rfl) (fun v_ h_ hp_ => ?_) (fun E_ h_ hp_ => by obtain ⟨rfl, rfl, hc_⟩ := hp_; exact v_xout F.2.2.2.2.2.1 htab (Nat.le_of_ble_eq_true rfl) (Nat.le_of_ble_eq_true rfl) (⟨rfl, Or.inl ⟨rfl, fun z_ => hc_ (by omega)⟩⟩))
  obtain ⟨rfl, rfl, rr_4a, rr_4b⟩ := hp_
  refine v_aload_n F (pc := 30) dX4_addRack_30 rfl ?_
  refine v_getf F (pc := 31) fd_X4_12_7 (v := .ref (P 1)) dX4_addRack_31 (ch_0 hk) rfl ?_
  refine v_getf F (pc := 34) fd_X4_50_6 (v := .ref (P 19)) dX4_addRack_34 (ch_1 hk) rfl ?_
  refine v_callVp F (pc := 37) (As := []) (rest := []) ci_X4_53 ct_Jx4a65c_size_8abf5 cs_Jx4a65c_size_8abf5 (k_Jx4a65c_size_8abf5 l g (n := τ 55 0) (ch_19 hk)) dX4_addRack_37 (k0 := 2) rfl rfl (ch_19 hk) rfl rfl (Nat.le_of_ble_eq_true rfl) (Nat.le_of_ble_eq_true rfl) (Nat.le_of_ble_eq_true rfl) (Nat.le_of_ble_eq_true rfl) (Nat.le_of_ble_eq_true rfl) ?_ (fun _ _ z => z.elim)
  refine v_istore F (pc := 40) (lo' := [some (.ref (P 0)), some (.int (iI (row))), some (.int (iI (s))), some (.int (iI (x))), some (.int (iI (y))), some (.int (iI (τ 55 0)))]) dX4_addRack_40 (Nat.le_of_ble_eq_true rfl) rfl ?_
  refine v_iload F (pc := 42) dX4_addRack_42 rfl ?_
  refine v_bipush F (pc := 44) dX4_addRack_44 (by decide) ?_
  refine v_icmp_lt F (pc := 46) (a := τ 55 0) (b := 8) 59 dX4_addRack_46 (by decide) (by omega) (by omega) (fun c_5 => ?_) (fun c_5 => ?_)
  · refine v_aload_n F (pc := 59) dX4_addRack_59 rfl ?_
    refine v_getf F (pc := 60) fd_X4_12_7 (v := .ref (P 1)) dX4_addRack_60 (ch_0 hk) rfl ?_
    refine v_getf F (pc := 63) fd_X4_50_6 (v := .ref (P 19)) dX4_addRack_63 (ch_1 hk) rfl ?_
    refine v_new F (pc := 66) fn_X4_64 dX4_addRack_66 (Nat.le_of_ble_eq_true rfl) (Nat.le_of_ble_eq_true rfl) (fun q_6 nq_6 => ?_)
    have ne_q : P 0 ≠ q_6 := fun z_ => by have h_ := ch_0 (g := g) (r := r) (b := b) (b' := b') (τ := τ) hk; rw [z_, nq_6] at h_; cases h_
    refine v_dup F (pc := 69) dX4_addRack_69 rfl ?_
    refine v_iload_n F (pc := 70) dX4_addRack_70 rfl ?_
    refine v_iload_n F (pc := 71) dX4_addRack_71 rfl ?_
    refine v_iload_n F (pc := 72) dX4_addRack_72 rfl ?_
    refine v_iload F (pc := 73) dX4_addRack_73 rfl ?_
    refine v_callIn F (pc := 75) (As := [.int (iI (row)), .int (iI (s)), .int (iI (x)), .int (iI (y))]) (rest := [.ref q_6, .ref (P 19)]) ci_X4_66 ct_X2_init rfl (k_X2_init l g (f_up_s _ _ _) row s x y) dX4_addRack_75 rfl rfl (Nat.le_of_ble_eq_true rfl) (Nat.le_of_ble_eq_true rfl) (Nat.le_of_ble_eq_true rfl) (Nat.le_of_ble_eq_true rfl) (Nat.le_of_ble_eq_true rfl) ?_
    obtain ⟨hk_n, he_n⟩ := ch_newr (r := r) (b := b) (b' := b') (τ := τ) hk nq_6 row s x y
    rw [f_up_up, he_n]
    have hfr := ch_fresh hk nq_6
    have hV5 : CV (kup K q_6 2) r cp (sro τ q_6 row s x y) := hV.newr hfr.2 (by omega)
    refine v_callV F (pc := 78) (As := [.ref q_6]) (rest := []) ci_X4_69 ct_Jx4a65c_add_9ea2d cs_Jx4a65c_add_9ea2d (kl_add2 l g (τ := (sro τ q_6 row s x y)) (r := r) (cp := cp) hk_n hb23 hb23' hV5.2.2.2.2.1 (kup_s K _ 2)) dX4_addRack_78 (k0 := 2) rfl rfl (ch_19 hk_n) rfl rfl (Nat.le_of_ble_eq_true rfl) (Nat.le_of_ble_eq_true rfl) (Nat.le_of_ble_eq_true rfl) (Nat.le_of_ble_eq_true rfl) (Nat.le_of_ble_eq_true rfl) (fun v_ h_ hp_ => ?_) (fun _ _ z => z.elim)
    obtain ⟨rfl, ed_a, cap_a, r1_a, rfl, hk_a, ha1, ha2, ha3⟩ := hp_
    refine v_pop F (pc := 81) dX4_addRack_81 rfl ?_
    refine v_iload F (pc := 82) dX4_addRack_82 rfl ?_
    refine v_iret F (pc := 84) (z := (iI (τ 55 0))) dX4_addRack_84 rfl rfl (Nat.le_of_ble_eq_true rfl) (Nat.le_of_ble_eq_true rfl) ?_
    exact ⟨rfl, by omega, by omega, q_6, ed_a, cap_a, r1_a, nq_6, rfl, hk_a, ha1, ha2, ha3.1, ha3.2⟩
  · refine v_throw F (pc := 49) (text := "no more racks") fit_IllegalStateException th_fit tk_X4_57 ti_IllegalStateException (by decide) th_X4_57_61 tg_X4_57_61 htab dX4_addRack_49 dX4_addRack_52 dX4_addRack_53 dX4_addRack_55 dX4_addRack_58 (Nat.le_of_ble_eq_true rfl) (Nat.le_of_ble_eq_true rfl) (Nat.le_of_ble_eq_true rfl) (Nat.le_of_ble_eq_true rfl) (Nat.le_of_ble_eq_true rfl) (Nat.le_of_ble_eq_true rfl) ?_
    exact ⟨rfl, Or.inr ⟨rfl, by omega, by omega⟩⟩
