-- X4_switchFeed
set_option maxRecDepth 100000 in
set_option maxHeartbeats 8000000 in
theorem k_X4_switchFeed (l : Launch) (g : gT) {P K : Nat → Nat} {r : Nat → Int → Option Nat} {cp : Nat → Nat} {b b' : Nat} {τ : sT} (hk : cok P K cp) (hb : b = 5 ∨ b = 12) (hb2 : b' = 5 ∨ b' = 12) (hV : CV K r cp τ) (hW : Wb τ b) (hPC : PC r τ) (f : Int) (hf : -2147483648 ≤ f ∧ f ≤ 2147483647) : CM l g yX4_switchFeed cX4_switchFeed 4 (some .int) ({ frames := 12, cells := 1, slots := 6, locals := 182 }) [.ref (P 0), .int (iI (f))] (cheap g P K r cp b b' τ) (fun v h1 => v = some (.int (iI (sm (cKt r (su τ 2 f (1 - τ 2 f))) (τ 53 0)))) ∧ h1 = cheap g P K r cp b b' (su τ 2 f (1 - τ 2 f)) ∧ 0 ≤ f ∧ f ≤ 1) (fun E h1 => E = "java/lang/IllegalArgumentException" ∧ h1 = cheap g P K r cp b b' τ ∧ ¬ (0 ≤ f ∧ f ≤ 1)) := by
  refine CM.of (lo := [some (.ref (P 0)), some (.int (iI (f))), none, none]) (by decide) (Nat.le_of_ble_eq_true rfl) (by simp [Value.category]) rfl ?_
  intro pX eX sX mX bX tX cX AX F htab hmn
  have F : Fx pX l sX mX ([.ref (P 0), .int (iI (f))] : List Value).toArray tX cX cX4_switchFeed 4 (some .int) RX4 g AX := F
  have hM := hV.1
  have hR := hV.2.1
  have hL0 := hV.2.2.1
  have hL1 := hV.2.2.2.1
  have hL2 := hV.2.2.2.2.1
  have hS20 := hV.2.2.2.2.2.1
  have hS21 := hV.2.2.2.2.2.2.1
  have hS22 := hV.2.2.2.2.2.2.2.1
  have hS2 := hV.2.2.2.2.2.2.2.2.1
  have hn8 : 0 ≤ τ 55 0 ∧ τ 55 0 ≤ 8 := ⟨hL2.1, hL2.2.2.2.1⟩
  have hn60 : 0 ≤ τ 53 0 ∧ τ 53 0 ≤ 60 := ⟨hL0.1, hL0.2.2.2.1⟩
  have hWb1 := hW.1
  have hWb2 := hW.2.1
  have hWb3 := hW.2.2.1
  have hWb5 := hW.2.2.2.1
  have hWb6 := hW.2.2.2.2
  refine v_iload_n F (pc := 0) dX4_switchFeed_0 rfl ?_
  refine v_callS F (pc := 1) (As := [.int (iI (f))]) (rest := []) ci_X4_89 ct_X4_requireFeed (k_X4_requireFeed l g f (by omega)) dX4_switchFeed_1 rfl rfl (Nat.le_of_ble_eq_true rfl) (Nat.le_of_ble_eq_true rfl) (Nat.le_of_ble_eq_true rfl) (Nat.le_of_ble_eq_true rfl) (Nat.le_of_ble_eq_true rfl) (fun v_ h_ hp_ => ?_) (fun E_ h_ hp_ => by obtain ⟨rfl, rfl, hc_⟩ := hp_; exact v_xout F.2.2.2.2.2.1 htab (Nat.le_of_ble_eq_true rfl) (Nat.le_of_ble_eq_true rfl) (⟨rfl, rfl, fun z_ => hc_ ⟨by omega, by omega⟩⟩))
  obtain ⟨rfl, rfl, rr_1a, rr_1b⟩ := hp_
  refine v_aload_n F (pc := 4) dX4_switchFeed_4 rfl ?_
  refine v_getf F (pc := 5) fd_X4_16_7 (v := .ref (P 2)) dX4_switchFeed_5 (ch_0 hk) rfl ?_
  refine v_iload_n F (pc := 8) dX4_switchFeed_8 rfl ?_
  refine v_aload_n F (pc := 9) dX4_switchFeed_9 rfl ?_
  refine v_getf F (pc := 10) fd_X4_16_7 (v := .ref (P 2)) dX4_switchFeed_10 (ch_0 hk) rfl ?_
  refine v_iload_n F (pc := 13) dX4_switchFeed_13 rfl ?_
  refine v_zald F (pc := 14) (n := 2) (f := τ 2) (z := f) dX4_switchFeed_14 (ch_2 hk) (by omega) (by decide) ?_
  have bd_2 := hS2 f (by omega) (by omega)
  have J_3 : VE pX l eX ({ frames := 12, cells := 1, slots := 6, locals := 182 }) sX mX ([.ref (P 0), .int (iI (f))] : List Value).toArray bX tX cX 4 g AX (cheap g P K r cp b b' τ) 1 6 23 [some (.ref (P 0)), some (.int (iI (f))), none, none] [.int (iI (1 - τ 2 f)), .int (iI (f)), .ref (P 2)] (fun v h1 => v = some (.int (iI (sm (cKt r (su τ 2 f (1 - τ 2 f))) (τ 53 0)))) ∧ h1 = cheap g P K r cp b b' (su τ 2 f (1 - τ 2 f)) ∧ 0 ≤ f ∧ f ≤ 1) (fun E h1 => E = "java/lang/IllegalArgumentException" ∧ h1 = cheap g P K r cp b b' τ ∧ ¬ (0 ≤ f ∧ f ≤ 1)) 1 6 := by
    refine v_zast F (pc := 23) (n := 2) (f := τ 2) (z := f) (x := 1 - τ 2 f) dX4_switchFeed_23 (ch_2 hk) (by omega) (by decide) (by omega) (h' := cheap g P K r cp b b' (su τ 2 f (1 - τ 2 f))) (cu_2 hk _) ?_
    have hbf := hS2 f (by omega) (by omega)
    have hVs : CV K r cp (su τ 2 f (1 - τ 2 f)) := hV.sw (by omega)
    have hWs : Wb (su τ 2 f (1 - τ 2 f)) b := Wb_su hb (by omega) hW
    refine v_iconst F (pc := 24) dX4_switchFeed_24 ?_
    refine v_istore_n F (pc := 25) (lo' := [some (.ref (P 0)), some (.int (iI (f))), some (.int (iI (0))), none]) dX4_switchFeed_25 (Nat.le_of_ble_eq_true rfl) rfl ?_
    refine v_iconst F (pc := 26) dX4_switchFeed_26 ?_
    refine v_istore_n F (pc := 27) (lo' := [some (.ref (P 0)), some (.int (iI (f))), some (.int (iI (0))), some (.int (iI (0)))]) dX4_switchFeed_27 (Nat.le_of_ble_eq_true rfl) rfl ?_
    have LP28 : ∀ (N_ : Nat) (k : Int), (0 ≤ k) → (k ≤ (τ 53 0)) → ((τ 53 0) - k).toNat < N_ → VE pX l eX ({ frames := 12, cells := 1, slots := 6, locals := 182 }) sX mX ([.ref (P 0), .int (iI (f))] : List Value).toArray bX tX cX 4 g AX (cheap g P K r cp b b' (su τ 2 f (1 - τ 2 f))) 1 6 28 [some (.ref (P 0)), some (.int (iI (f))), some (.int (iI (sm (cKt r (su τ 2 f (1 - τ 2 f))) k))), some (.int (iI (k)))] [] (fun v h1 => v = some (.int (iI (sm (cKt r (su τ 2 f (1 - τ 2 f))) (τ 53 0)))) ∧ h1 = cheap g P K r cp b b' (su τ 2 f (1 - τ 2 f)) ∧ 0 ≤ f ∧ f ≤ 1) (fun E h1 => E = "java/lang/IllegalArgumentException" ∧ h1 = cheap g P K r cp b b' τ ∧ ¬ (0 ≤ f ∧ f ≤ 1)) 1 6 := by
      intro N_
      induction N_ with
      | zero => intro k _ _ hm_; exact absurd hm_ (Nat.not_lt_zero _)
      | succ N_ ih =>
        intro k hk0 hk1 hm_
        refine v_iload_n F (pc := 28) dX4_switchFeed_28 rfl ?_
        refine v_aload_n F (pc := 29) dX4_switchFeed_29 rfl ?_
        refine v_getf F (pc := 30) fd_X4_23_7 (v := .ref (P 3)) dX4_switchFeed_30 (ch_0 hk) rfl ?_
        refine v_callVp F (pc := 33) (As := []) (rest := [.int (iI (k))]) ci_X4_53 ct_Jx4a65c_size_8abf5 cs_Jx4a65c_size_8abf5 (k_Jx4a65c_size_8abf5 l g (n := τ 53 0) (ch_3 hk)) dX4_switchFeed_33 (k0 := 2) rfl rfl (ch_3 hk) rfl rfl (Nat.le_of_ble_eq_true rfl) (Nat.le_of_ble_eq_true rfl) (Nat.le_of_ble_eq_true rfl) (Nat.le_of_ble_eq_true rfl) (Nat.le_of_ble_eq_true rfl) ?_ (fun _ _ z => z.elim)
        refine v_icmp_ge F (pc := 36) (a := k) (b := τ 53 0) 66 dX4_switchFeed_36 (by decide) (by omega) (by omega) (fun c_4 => ?_) (fun c_4 => ?_)
        · refine v_iload_n F (pc := 66) dX4_switchFeed_66 rfl ?_
          refine v_iret F (pc := 67) (z := (iI (sm (cKt r (su τ 2 f (1 - τ 2 f))) k))) dX4_switchFeed_67 rfl rfl (Nat.le_of_ble_eq_true rfl) (Nat.le_of_ble_eq_true rfl) ?_
          exact ⟨by rw [show k = τ 53 0 by omega], rfl, by omega, by omega⟩
        · refine v_aload_n F (pc := 39) dX4_switchFeed_39 rfl ?_
          refine v_aload_n F (pc := 40) dX4_switchFeed_40 rfl ?_
          refine v_getf F (pc := 41) fd_X4_23_7 (v := .ref (P 3)) dX4_switchFeed_41 (ch_0 hk) rfl ?_
          refine v_iload_n F (pc := 44) dX4_switchFeed_44 rfl ?_
          refine v_callVp F (pc := 45) (As := [.int (iI (k))]) (rest := [.ref (P 0)]) ci_X4_101 ct_Jx4a65c_get_915e3 cs_Jx4a65c_get_915e3 (kl_get0 l g (τ := su τ 2 f (1 - τ 2 f)) (r := r) (cp := cp) hk hL0 (k := k) (by omega) (show (k : Int) < τ 53 0 by omega)) dX4_switchFeed_45 (k0 := 2) rfl rfl (ch_3 hk) rfl rfl (Nat.le_of_ble_eq_true rfl) (Nat.le_of_ble_eq_true rfl) (Nat.le_of_ble_eq_true rfl) (Nat.le_of_ble_eq_true rfl) (Nat.le_of_ble_eq_true rfl) ?_ (fun _ _ z => z.elim)
          have kq_5 : K (ad r 0 k) = 1 := (hL0.2.2.2.2 k (by omega) (show (k : Int) < τ 53 0 by omega)).2
          have kq_5b := hM _ kq_5
          refine v_castS F (pc := 48) (ci := 4) rfl tk_X4_105 dX4_switchFeed_48 (ch_m hk kq_5) ?_
          refine v_callVp F (pc := 51) (As := [.ref (ad r 0 k)]) (rest := []) ci_X4_107 ct_X4_hasNoFeed cs_X4_hasNoFeed (k_X4_hasNoFeed l g hk hb hb2 hVs hWs hPC kq_5 kq_5b) dX4_switchFeed_51 (k0 := 7) rfl rfl (ch_0 hk) rfl rfl (Nat.le_of_ble_eq_true rfl) (Nat.le_of_ble_eq_true rfl) (Nat.le_of_ble_eq_true rfl) (Nat.le_of_ble_eq_true rfl) (Nat.le_of_ble_eq_true rfl) ?_ (fun _ _ z => z.elim)
          refine v_if_eqB F (pc := 54) (b := (cDk (su τ 2 f (1 - τ 2 f)) (ad r 0 k))) 60 dX4_switchFeed_54 (by decide) (fun c_6 => ?_) (fun c_6 => ?_)
          · have hq9 := c_6
            refine v_iinc F (pc := 60) (lo' := [some (.ref (P 0)), some (.int (iI (f))), some (.int (iI (sm (cKt r (su τ 2 f (1 - τ 2 f))) k))), some (.int (iI (k + 1)))]) dX4_switchFeed_60 rfl (Nat.le_of_ble_eq_true rfl) rfl ?_
            refine v_goto F (pc := 63) 28 dX4_switchFeed_63 (by decide) ?_
            have e_0 : sm (cKt r (su τ 2 f (1 - τ 2 f))) (k + 1) = sm (cKt r (su τ 2 f (1 - τ 2 f))) k := by rw [sm_s _ hk0, show cKt r (su τ 2 f (1 - τ 2 f)) k = 0 from if_neg (fun z_ => by rw [hq9] at z_; cases z_)]; omega
            have ih2 := ih (k + 1) (by omega) (by omega)  (by omega)
            rw [e_0] at ih2
            exact ih2
          · have hq9 := c_6
            refine v_iinc F (pc := 57) (lo' := [some (.ref (P 0)), some (.int (iI (f))), some (.int (iI (sm (cKt r (su τ 2 f (1 - τ 2 f))) k + 1))), some (.int (iI (k)))]) dX4_switchFeed_57 rfl (Nat.le_of_ble_eq_true rfl) rfl ?_
            refine v_iinc F (pc := 60) (lo' := [some (.ref (P 0)), some (.int (iI (f))), some (.int (iI (sm (cKt r (su τ 2 f (1 - τ 2 f))) k + 1))), some (.int (iI (k + 1)))]) dX4_switchFeed_60 rfl (Nat.le_of_ble_eq_true rfl) rfl ?_
            refine v_goto F (pc := 63) 28 dX4_switchFeed_63 (by decide) ?_
            have e_0 : sm (cKt r (su τ 2 f (1 - τ 2 f))) (k + 1) = sm (cKt r (su τ 2 f (1 - τ 2 f))) k + 1 := by rw [sm_s _ hk0]; exact congrArg (fun z => sm (cKt r (su τ 2 f (1 - τ 2 f))) k + z) (if_pos hq9)
            have ih2 := ih (k + 1) (by omega) (by omega)  (by omega)
            rw [e_0] at ih2
            exact ih2
    exact LP28 _ 0 (Int.le_refl _) (by omega)  (Nat.lt_succ_self _)
  refine v_if_ne F (pc := 15) (a := (τ 2) f) 22 dX4_switchFeed_15 (by decide) (by omega) (fun c_7 => ?_) (fun c_7 => ?_)
  · refine v_iconst F (pc := 22) dX4_switchFeed_22 ?_
    exact V.to J_3 rfl rfl (by rw [show (1 - τ 2 f : Int) = 0 by omega]; first | done | rfl)
  · refine v_iconst F (pc := 18) dX4_switchFeed_18 ?_
    refine v_goto F (pc := 19) 23 dX4_switchFeed_19 (by decide) ?_
    exact V.to J_3 rfl rfl (by rw [show (1 - τ 2 f : Int) = 1 by omega]; first | done | rfl)
-- X4_racksFor
set_option maxRecDepth 100000 in
set_option maxHeartbeats 8000000 in
theorem k_X4_racksFor (l : Launch) (g : gT) {P K : Nat → Nat} {r : Nat → Int → Option Nat} {cp : Nat → Nat} {b b' : Nat} {τ : sT} (hk : cok P K cp) (hb : b = 5 ∨ b = 12) (hb2 : b' = 5 ∨ b' = 12) (hV : CV K r cp τ) (hW : Wb τ b) (hPC : PC r τ) (n p w c : Int) (hn : -2147483648 ≤ n ∧ n ≤ 2147483647) (hp : -2147483648 ≤ p ∧ p ≤ 2147483647) (hw : -2147483648 ≤ w ∧ w ≤ 2147483647) (hc : -2147483648 ≤ c ∧ c ≤ 2147483647) : CM l g yX4_racksFor cX4_racksFor 8 (some .int) ({ frames := 12, cells := 5, slots := 31, locals := 186 }) [.ref (P 0), .int (iI (n)), .int (iI (p)), .int (iI (w)), .int (iI (c))] (cheap g P K r cp b b' τ) (fun v h1 => h1 = cheap g P K r cp b b' τ ∧ cKD n p w c ∧ ∃ q, K q ≠ 1 ∧ K q ≠ 2 ∧ v = some (.int (iI (sm (cRt r (smo τ q (τ 0 0) n p w c) b q) (τ 55 0))))) (fun E h1 => E = "java/lang/IllegalArgumentException" ∧ h1 = cheap g P K r cp b b' τ ∧ ¬ cKD n p w c) := by
  refine CM.of (lo := [some (.ref (P 0)), some (.int (iI (n))), some (.int (iI (p))), some (.int (iI (w))), some (.int (iI (c))), none, none, none]) (by decide) (Nat.le_of_ble_eq_true rfl) (by simp [Value.category]) rfl ?_
  intro pX eX sX mX bX tX cX AX F htab hmn
  have F : Fx pX l sX mX ([.ref (P 0), .int (iI (n)), .int (iI (p)), .int (iI (w)), .int (iI (c))] : List Value).toArray tX cX cX4_racksFor 8 (some .int) RX4 g AX := F
  have hM := hV.1
  have hR := hV.2.1
  have hL0 := hV.2.2.1
  have hL1 := hV.2.2.2.1
  have hL2 := hV.2.2.2.2.1
  have hS20 := hV.2.2.2.2.2.1
  have hS21 := hV.2.2.2.2.2.2.1
  have hS22 := hV.2.2.2.2.2.2.2.1
  have hS2 := hV.2.2.2.2.2.2.2.2.1
  have hn8 : 0 ≤ τ 55 0 ∧ τ 55 0 ≤ 8 := ⟨hL2.1, hL2.2.2.2.1⟩
  have hn60 : 0 ≤ τ 53 0 ∧ τ 53 0 ≤ 60 := ⟨hL0.1, hL0.2.2.2.1⟩
  have hWb1 := hW.1
  have hWb2 := hW.2.1
  have hWb3 := hW.2.2.1
  have hWb5 := hW.2.2.2.1
  have hWb6 := hW.2.2.2.2
  refine v_aload_n F (pc := 0) dX4_racksFor_0 rfl ?_
  refine v_iload_n F (pc := 1) dX4_racksFor_1 rfl ?_
  refine v_iload_n F (pc := 2) dX4_racksFor_2 rfl ?_
  refine v_iload_n F (pc := 3) dX4_racksFor_3 rfl ?_
  refine v_iload F (pc := 4) dX4_racksFor_4 rfl ?_
  refine v_callV F (pc := 6) (As := [.int (iI (n)), .int (iI (p)), .int (iI (w)), .int (iI (c))]) (rest := []) ci_X4_111 ct_X4_newMachine cs_X4_newMachine (k_X4_newMachine l g hk hb hb2 hV hW hPC n p w c (by omega) (by omega) (by omega) (by omega)) dX4_racksFor_6 (k0 := 7) rfl rfl (ch_0 hk) rfl rfl (Nat.le_of_ble_eq_true rfl) (Nat.le_of_ble_eq_true rfl) (Nat.le_of_ble_eq_true rfl) (Nat.le_of_ble_eq_true rfl) (Nat.le_of_ble_eq_true rfl) (fun v_ h_ hp_ => ?_) (fun E_ h_ hp_ => by obtain ⟨rfl, rfl, hc_⟩ := hp_; exact v_xout F.2.2.2.2.2.1 htab (Nat.le_of_ble_eq_true rfl) (Nat.le_of_ble_eq_true rfl) (⟨rfl, rfl, hc_⟩))
  obtain ⟨q, nq, rfl, rfl, hkd⟩ := hp_
  have hfr := ch_fresh hk nq
  have hkn : cok P (kup K q 1) cp := (ch_newm hk nq (τ 0 0) n p w c).1
  have hVn : CV (kup K q 1) r cp (smo τ q (τ 0 0) n p w c) := hV.newm hfr.2 hkd
  have hWn : Wb (smo τ q (τ 0 0) n p w c) b := Wb_smo hb hW _ _ _ _ _
  have hmqn := hVn.1 q (kup_s K q 1)
  have e55 : (smo τ q (τ 0 0) n p w c) 55 0 = τ 55 0 := rfl
  have e53 : (smo τ q (τ 0 0) n p w c) 53 0 = τ 53 0 := rfl
  refine v_astore F (pc := 9) (lo' := [some (.ref (P 0)), some (.int (iI (n))), some (.int (iI (p))), some (.int (iI (w))), some (.int (iI (c))), some (.ref q), none, none]) dX4_racksFor_9 (Nat.le_of_ble_eq_true rfl) rfl ?_
  refine v_iconst F (pc := 11) dX4_racksFor_11 ?_
  refine v_istore F (pc := 12) (lo' := [some (.ref (P 0)), some (.int (iI (n))), some (.int (iI (p))), some (.int (iI (w))), some (.int (iI (c))), some (.ref q), some (.int (iI (0))), none]) dX4_racksFor_12 (Nat.le_of_ble_eq_true rfl) rfl ?_
  refine v_iconst F (pc := 14) dX4_racksFor_14 ?_
  refine v_istore F (pc := 15) (lo' := [some (.ref (P 0)), some (.int (iI (n))), some (.int (iI (p))), some (.int (iI (w))), some (.int (iI (c))), some (.ref q), some (.int (iI (0))), some (.int (iI (0)))]) dX4_racksFor_15 (Nat.le_of_ble_eq_true rfl) rfl ?_
  have LP17 : ∀ (N_ : Nat) (k : Int), (0 ≤ k) → (k ≤ (τ 55 0)) → ((τ 55 0) - k).toNat < N_ → VE pX l eX ({ frames := 12, cells := 5, slots := 31, locals := 186 }) sX mX ([.ref (P 0), .int (iI (n)), .int (iI (p)), .int (iI (w)), .int (iI (c))] : List Value).toArray bX tX cX 8 g AX (cheap g P (kup K q 1) r cp b b' (smo τ q (τ 0 0) n p w c)) 5 31 17 [some (.ref (P 0)), some (.int (iI (n))), some (.int (iI (p))), some (.int (iI (w))), some (.int (iI (c))), some (.ref q), some (.int (iI (sm (cRt r (smo τ q (τ 0 0) n p w c) b q) k))), some (.int (iI (k)))] [] (fun v h1 => h1 = cheap g P K r cp b b' τ ∧ cKD n p w c ∧ ∃ q, K q ≠ 1 ∧ K q ≠ 2 ∧ v = some (.int (iI (sm (cRt r (smo τ q (τ 0 0) n p w c) b q) (τ 55 0))))) (fun E h1 => E = "java/lang/IllegalArgumentException" ∧ h1 = cheap g P K r cp b b' τ ∧ ¬ cKD n p w c) 5 31 := by
    intro N_
    induction N_ with
    | zero => intro k _ _ hm_; exact absurd hm_ (Nat.not_lt_zero _)
    | succ N_ ih =>
      intro k hk0 hk1 hm_
      have hrr := cRt_rng (r := r) (τ := (smo τ q (τ 0 0) n p w c)) (w := b) (m := q) hk0 (by omega)
      refine v_iload F (pc := 17) dX4_racksFor_17 rfl ?_
      refine v_aload_n F (pc := 19) dX4_racksFor_19 rfl ?_
      refine v_getf F (pc := 20) fd_X4_12_7 (v := .ref (P 1)) dX4_racksFor_20 (ch_0 hkn) rfl ?_
      refine v_getf F (pc := 23) fd_X4_50_6 (v := .ref (P 19)) dX4_racksFor_23 (ch_1 hkn) rfl ?_
      refine v_callVp F (pc := 26) (As := []) (rest := [.int (iI (k))]) ci_X4_53 ct_Jx4a65c_size_8abf5 cs_Jx4a65c_size_8abf5 (k_Jx4a65c_size_8abf5 l g (n := τ 55 0) (ch_19 hkn)) dX4_racksFor_26 (k0 := 2) rfl rfl (ch_19 hkn) rfl rfl (Nat.le_of_ble_eq_true rfl) (Nat.le_of_ble_eq_true rfl) (Nat.le_of_ble_eq_true rfl) (Nat.le_of_ble_eq_true rfl) (Nat.le_of_ble_eq_true rfl) ?_ (fun _ _ z => z.elim)
      refine v_icmp_ge F (pc := 29) (a := k) (b := τ 55 0) 62 dX4_racksFor_29 (by decide) (by omega) (by omega) (fun c_1 => ?_) (fun c_1 => ?_)
      · refine v_iload F (pc := 62) dX4_racksFor_62 rfl ?_
        refine V.sub (h' := cheap g P K r cp b b' τ) ?_ (ch_subm hk nq _ _ _ _ _)
        refine v_iret F (pc := 64) (z := (iI (sm (cRt r (smo τ q (τ 0 0) n p w c) b q) k))) dX4_racksFor_64 rfl rfl (Nat.le_of_ble_eq_true rfl) (Nat.le_of_ble_eq_true rfl) ?_
        exact ⟨rfl, hkd, q, hfr.2.1, hfr.2.2, by rw [show k = τ 55 0 by omega]⟩
      · refine v_aload_n F (pc := 32) dX4_racksFor_32 rfl ?_
        refine v_getf F (pc := 33) fd_X4_35_7 (v := .ref (P b)) dX4_racksFor_33 (ch_0 hkn) rfl ?_
        refine v_iload F (pc := 36) dX4_racksFor_36 rfl ?_
        refine v_aload F (pc := 38) dX4_racksFor_38 rfl ?_
        refine v_callVp F (pc := 40) (As := [.int (iI (k)), .ref q]) (rest := []) ci_X4_220 ct_X0_fitIn cs_X0_fitIn (k_X0_fitIn l g hb hkn (τ := (smo τ q (τ 0 0) n p w c)) (K := (kup K q 1)) (r := r) (cp := cp) (b := b) (b' := b') hVn hWn k (by omega) (kup_s K q 1)) dX4_racksFor_40 (k0 := 3) rfl rfl (ch_lo hkn hb) rfl rfl (Nat.le_of_ble_eq_true rfl) (Nat.le_of_ble_eq_true rfl) (Nat.le_of_ble_eq_true rfl) (Nat.le_of_ble_eq_true rfl) (Nat.le_of_ble_eq_true rfl) ?_ (fun _ _ z => z.elim)
        have rg_2 := cFit_rng (r := r) (τ := (smo τ q (τ 0 0) n p w c)) (w := b) (k := k) (m := q) hVn (by omega) (by omega) (kup_s K q 1)
        refine v_iconst F (pc := 43) dX4_racksFor_43 ?_
        refine v_icmp_eq F (pc := 44) (a := cFit r (smo τ q (τ 0 0) n p w c) b k q) (b := -1) 56 dX4_racksFor_44 (by decide) (by omega) (by omega) (fun c_3 => ?_) (fun c_3 => ?_)
        · have hq9 := c_3
          refine v_iinc F (pc := 56) (lo' := [some (.ref (P 0)), some (.int (iI (n))), some (.int (iI (p))), some (.int (iI (w))), some (.int (iI (c))), some (.ref q), some (.int (iI (sm (cRt r (smo τ q (τ 0 0) n p w c) b q) k))), some (.int (iI (k + 1)))]) dX4_racksFor_56 rfl (Nat.le_of_ble_eq_true rfl) rfl ?_
          refine v_goto F (pc := 59) 17 dX4_racksFor_59 (by decide) ?_
          have e_0 : sm (cRt r (smo τ q (τ 0 0) n p w c) b q) (k + 1) = sm (cRt r (smo τ q (τ 0 0) n p w c) b q) k := by rw [sm_s _ hk0, show cRt r (smo τ q (τ 0 0) n p w c) b q k = 0 from if_pos hq9]; omega
          have ih2 := ih (k + 1) (by omega) (by omega)  (by omega)
          rw [e_0] at ih2
          exact ih2
        · have hq9 := c_3
          refine v_iload F (pc := 47) dX4_racksFor_47 rfl ?_
          refine v_iconst F (pc := 49) dX4_racksFor_49 ?_
          refine v_iload F (pc := 50) dX4_racksFor_50 rfl ?_
          refine v_ishl1 F (pc := 52) (r := k) dX4_racksFor_52 (by omega) ?_
          refine v_iorp F (pc := 53) (r := k) (a := sm (cRt r (smo τ q (τ 0 0) n p w c) b q) k) dX4_racksFor_53 (by omega) (by omega) ?_
          refine v_istore F (pc := 54) (lo' := [some (.ref (P 0)), some (.int (iI (n))), some (.int (iI (p))), some (.int (iI (w))), some (.int (iI (c))), some (.ref q), some (.int (iI ((sm (cRt r (smo τ q (τ 0 0) n p w c) b q) k) + p2 k))), some (.int (iI (k)))]) dX4_racksFor_54 (Nat.le_of_ble_eq_true rfl) rfl ?_
          refine v_iinc F (pc := 56) (lo' := [some (.ref (P 0)), some (.int (iI (n))), some (.int (iI (p))), some (.int (iI (w))), some (.int (iI (c))), some (.ref q), some (.int (iI ((sm (cRt r (smo τ q (τ 0 0) n p w c) b q) k) + p2 k))), some (.int (iI (k + 1)))]) dX4_racksFor_56 rfl (Nat.le_of_ble_eq_true rfl) rfl ?_
          refine v_goto F (pc := 59) 17 dX4_racksFor_59 (by decide) ?_
          have e_0 : sm (cRt r (smo τ q (τ 0 0) n p w c) b q) (k + 1) = (sm (cRt r (smo τ q (τ 0 0) n p w c) b q) k) + p2 k := by rw [sm_s _ hk0]; exact congrArg (fun z => sm (cRt r (smo τ q (τ 0 0) n p w c) b q) k + z) (if_neg hq9)
          have ih2 := ih (k + 1) (by omega) (by omega)  (by omega)
          rw [e_0] at ih2
          exact ih2
  exact LP17 _ 0 (Int.le_refl _) (by omega)  (Nat.lt_succ_self _)
-- X4_roomByCounting
set_option maxRecDepth 100000 in
set_option maxHeartbeats 8000000 in
theorem k_X4_roomByCounting (l : Launch) (g : gT) {P K : Nat → Nat} {r : Nat → Int → Option Nat} {cp : Nat → Nat} {b b' : Nat} {τ : sT} (hk : cok P K cp) (hb : b = 5 ∨ b = 12) (hb2 : b' = 5 ∨ b' = 12) (hV : CV K r cp τ) (hW : Wb τ b) (hPC : PC r τ) (hML : cML r τ b) (hMF : cAll τ (b + 5) ≤ τ 22 0 ∧ cAll τ (b + 6) ≤ τ 22 1) (n p w c : Int) (hn : -2147483648 ≤ n ∧ n ≤ 2147483647) (hp : -2147483648 ≤ p ∧ p ≤ 2147483647) (hw : -2147483648 ≤ w ∧ w ≤ 2147483647) (hc : -2147483648 ≤ c ∧ c ≤ 2147483647) : CM l g yX4_roomByCounting cX4_roomByCounting 9 (some .int) ({ frames := 12, cells := 5, slots := 31, locals := 186 }) [.ref (P 0), .int (iI (n)), .int (iI (p)), .int (iI (w)), .int (iI (c))] (cheap g P K r cp b b' τ) (fun v h1 => h1 = cheap g P K r cp b b' τ ∧ cKD n p w c ∧ ∃ q, K q ≠ 1 ∧ K q ≠ 2 ∧ v = some (.int (iI (cCA r (smo τ q (τ 0 0) n p w c) b q)))) (fun E h1 => E = "java/lang/IllegalArgumentException" ∧ h1 = cheap g P K r cp b b' τ ∧ ¬ cKD n p w c) := by
  refine CM.of (lo := [some (.ref (P 0)), some (.int (iI (n))), some (.int (iI (p))), some (.int (iI (w))), some (.int (iI (c))), none, none, none, none]) (by decide) (Nat.le_of_ble_eq_true rfl) (by simp [Value.category]) rfl ?_
  intro pX eX sX mX bX tX cX AX F htab hmn
  have F : Fx pX l sX mX ([.ref (P 0), .int (iI (n)), .int (iI (p)), .int (iI (w)), .int (iI (c))] : List Value).toArray tX cX cX4_roomByCounting 9 (some .int) RX4 g AX := F
  have hM := hV.1
  have hR := hV.2.1
  have hL0 := hV.2.2.1
  have hL1 := hV.2.2.2.1
  have hL2 := hV.2.2.2.2.1
  have hS20 := hV.2.2.2.2.2.1
  have hS21 := hV.2.2.2.2.2.2.1
  have hS22 := hV.2.2.2.2.2.2.2.1
  have hS2 := hV.2.2.2.2.2.2.2.2.1
  have hn8 : 0 ≤ τ 55 0 ∧ τ 55 0 ≤ 8 := ⟨hL2.1, hL2.2.2.2.1⟩
  have hn60 : 0 ≤ τ 53 0 ∧ τ 53 0 ≤ 60 := ⟨hL0.1, hL0.2.2.2.1⟩
  have hWb1 := hW.1
  have hWb2 := hW.2.1
  have hWb3 := hW.2.2.1
  have hWb5 := hW.2.2.2.1
  have hWb6 := hW.2.2.2.2
  refine v_aload_n F (pc := 0) dX4_roomByCounting_0 rfl ?_
  refine v_iload_n F (pc := 1) dX4_roomByCounting_1 rfl ?_
  refine v_iload_n F (pc := 2) dX4_roomByCounting_2 rfl ?_
  refine v_iload_n F (pc := 3) dX4_roomByCounting_3 rfl ?_
  refine v_iload F (pc := 4) dX4_roomByCounting_4 rfl ?_
  refine v_callV F (pc := 6) (As := [.int (iI (n)), .int (iI (p)), .int (iI (w)), .int (iI (c))]) (rest := []) ci_X4_111 ct_X4_newMachine cs_X4_newMachine (k_X4_newMachine l g hk hb hb2 hV hW hPC n p w c (by omega) (by omega) (by omega) (by omega)) dX4_roomByCounting_6 (k0 := 7) rfl rfl (ch_0 hk) rfl rfl (Nat.le_of_ble_eq_true rfl) (Nat.le_of_ble_eq_true rfl) (Nat.le_of_ble_eq_true rfl) (Nat.le_of_ble_eq_true rfl) (Nat.le_of_ble_eq_true rfl) (fun v_ h_ hp_ => ?_) (fun E_ h_ hp_ => by obtain ⟨rfl, rfl, hc_⟩ := hp_; exact v_xout F.2.2.2.2.2.1 htab (Nat.le_of_ble_eq_true rfl) (Nat.le_of_ble_eq_true rfl) (⟨rfl, rfl, hc_⟩))
  obtain ⟨q, nq, rfl, rfl, hkd⟩ := hp_
  have hfr := ch_fresh hk nq
  have hkn : cok P (kup K q 1) cp := (ch_newm hk nq (τ 0 0) n p w c).1
  have hVn : CV (kup K q 1) r cp (smo τ q (τ 0 0) n p w c) := hV.newm hfr.2 hkd
  have hWn : Wb (smo τ q (τ 0 0) n p w c) b := Wb_smo hb hW _ _ _ _ _
  have hmqn := hVn.1 q (kup_s K q 1)
  have e55 : (smo τ q (τ 0 0) n p w c) 55 0 = τ 55 0 := rfl
  have e53 : (smo τ q (τ 0 0) n p w c) 53 0 = τ 53 0 := rfl
  refine v_astore F (pc := 9) (lo' := [some (.ref (P 0)), some (.int (iI (n))), some (.int (iI (p))), some (.int (iI (w))), some (.int (iI (c))), some (.ref q), none, none, none]) dX4_roomByCounting_9 (Nat.le_of_ble_eq_true rfl) rfl ?_
  have hMLn : cML r (smo τ q (τ 0 0) n p w c) b := cML_smo hb (fun k k0 k1 z => hfr.2.2 (by rw [← z]; exact (hL2.2.2.2.2 k k0 k1).2)) hML _ _ _ _ _
  have ea5 : cAll (smo τ q (τ 0 0) n p w c) (b + 5) = cAll τ (b + 5) := cAll_smo (by omega) _ _ _ _ _
  have ea6 : cAll (smo τ q (τ 0 0) n p w c) (b + 6) = cAll τ (b + 6) := cAll_smo (by omega) _ _ _ _ _
  have hpw0 := m_pw_2000 (c := (smo τ q (τ 0 0) n p w c) 34 q) (f := 0) hmqn.2.2.1
  have hpw1 := m_pw_2000 (c := (smo τ q (τ 0 0) n p w c) 34 q) (f := 1) hmqn.2.2.1
  refine v_iconst F (pc := 11) dX4_roomByCounting_11 ?_
  refine v_istore F (pc := 12) (lo' := [some (.ref (P 0)), some (.int (iI (n))), some (.int (iI (p))), some (.int (iI (w))), some (.int (iI (c))), some (.ref q), some (.int (iI (0))), none, none]) dX4_roomByCounting_12 (Nat.le_of_ble_eq_true rfl) rfl ?_
  refine v_iconst F (pc := 14) dX4_roomByCounting_14 ?_
  refine v_istore F (pc := 15) (lo' := [some (.ref (P 0)), some (.int (iI (n))), some (.int (iI (p))), some (.int (iI (w))), some (.int (iI (c))), some (.ref q), some (.int (iI (0))), some (.int (iI (0))), none]) dX4_roomByCounting_15 (Nat.le_of_ble_eq_true rfl) rfl ?_
  refine v_iload F (pc := 17) dX4_roomByCounting_17 rfl ?_
  refine v_iconst F (pc := 19) dX4_roomByCounting_19 ?_
  refine v_icmp_ge F (pc := 20) (a := 0) (b := 4) 45 dX4_roomByCounting_20 (by decide) (by omega) (by omega) (fun c_1 => ?_) (fun c_1 => ?_)
  · exact absurd c_1 (by decide)
  · refine v_iload F (pc := 23) dX4_roomByCounting_23 rfl ?_
    refine v_aload_n F (pc := 25) dX4_roomByCounting_25 rfl ?_
    refine v_getf F (pc := 26) fd_X4_35_7 (v := .ref (P b)) dX4_roomByCounting_26 (ch_0 hkn) rfl ?_
    refine v_iload F (pc := 29) dX4_roomByCounting_29 rfl ?_
    refine v_aload F (pc := 31) dX4_roomByCounting_31 rfl ?_
    refine v_callVp F (pc := 33) (As := [.int (iI (0)), .ref q]) (rest := [.int (iI (0))]) ci_X4_231 ct_X0_countForRow cs_X0_countForRow (k_X0_countForRow l g hb hkn (τ := (smo τ q (τ 0 0) n p w c)) (K := (kup K q 1)) (r := r) (cp := cp) (b := b) (b' := b') hVn hWn hMLn 0 (by omega) (kup_s K q 1)) dX4_roomByCounting_33 (k0 := 3) rfl rfl (ch_lo hkn hb) rfl rfl (Nat.le_of_ble_eq_true rfl) (Nat.le_of_ble_eq_true rfl) (Nat.le_of_ble_eq_true rfl) (Nat.le_of_ble_eq_true rfl) (Nat.le_of_ble_eq_true rfl) ?_ (fun _ _ z => z.elim)
    have rg_2 := cCW_rng (row := 0) hVn hWn hMLn (kup_s K q 1) (by decide) (by decide)
    refine v_iadd F (pc := 36) (a := 0) (b := cCW r (smo τ q (τ 0 0) n p w c) b 0 q) dX4_roomByCounting_36 ?_
    refine v_istore F (pc := 37) (lo' := [some (.ref (P 0)), some (.int (iI (n))), some (.int (iI (p))), some (.int (iI (w))), some (.int (iI (c))), some (.ref q), some (.int (iI (0 + (cCW r (smo τ q (τ 0 0) n p w c) b 0 q)))), some (.int (iI (0))), none]) dX4_roomByCounting_37 (Nat.le_of_ble_eq_true rfl) rfl ?_
    refine v_iinc F (pc := 39) (lo' := [some (.ref (P 0)), some (.int (iI (n))), some (.int (iI (p))), some (.int (iI (w))), some (.int (iI (c))), some (.ref q), some (.int (iI (0 + (cCW r (smo τ q (τ 0 0) n p w c) b 0 q)))), some (.int (iI (1))), none]) dX4_roomByCounting_39 rfl (Nat.le_of_ble_eq_true rfl) rfl ?_
    refine v_goto F (pc := 42) 17 dX4_roomByCounting_42 (by decide) ?_
    refine v_iload F (pc := 17) dX4_roomByCounting_17 rfl ?_
    refine v_iconst F (pc := 19) dX4_roomByCounting_19 ?_
    refine v_icmp_ge F (pc := 20) (a := 1) (b := 4) 45 dX4_roomByCounting_20 (by decide) (by omega) (by omega) (fun c_3 => ?_) (fun c_3 => ?_)
    · exact absurd c_3 (by decide)
    · refine v_iload F (pc := 23) dX4_roomByCounting_23 rfl ?_
      refine v_aload_n F (pc := 25) dX4_roomByCounting_25 rfl ?_
      refine v_getf F (pc := 26) fd_X4_35_7 (v := .ref (P b)) dX4_roomByCounting_26 (ch_0 hkn) rfl ?_
      refine v_iload F (pc := 29) dX4_roomByCounting_29 rfl ?_
      refine v_aload F (pc := 31) dX4_roomByCounting_31 rfl ?_
      refine v_callVp F (pc := 33) (As := [.int (iI (1)), .ref q]) (rest := [.int (iI (0 + (cCW r (smo τ q (τ 0 0) n p w c) b 0 q)))]) ci_X4_231 ct_X0_countForRow cs_X0_countForRow (k_X0_countForRow l g hb hkn (τ := (smo τ q (τ 0 0) n p w c)) (K := (kup K q 1)) (r := r) (cp := cp) (b := b) (b' := b') hVn hWn hMLn 1 (by omega) (kup_s K q 1)) dX4_roomByCounting_33 (k0 := 3) rfl rfl (ch_lo hkn hb) rfl rfl (Nat.le_of_ble_eq_true rfl) (Nat.le_of_ble_eq_true rfl) (Nat.le_of_ble_eq_true rfl) (Nat.le_of_ble_eq_true rfl) (Nat.le_of_ble_eq_true rfl) ?_ (fun _ _ z => z.elim)
      have rg_4 := cCW_rng (row := 1) hVn hWn hMLn (kup_s K q 1) (by decide) (by decide)
      refine v_iadd F (pc := 36) (a := 0 + (cCW r (smo τ q (τ 0 0) n p w c) b 0 q)) (b := cCW r (smo τ q (τ 0 0) n p w c) b 1 q) dX4_roomByCounting_36 ?_
      refine v_istore F (pc := 37) (lo' := [some (.ref (P 0)), some (.int (iI (n))), some (.int (iI (p))), some (.int (iI (w))), some (.int (iI (c))), some (.ref q), some (.int (iI ((0 + (cCW r (smo τ q (τ 0 0) n p w c) b 0 q)) + (cCW r (smo τ q (τ 0 0) n p w c) b 1 q)))), some (.int (iI (1))), none]) dX4_roomByCounting_37 (Nat.le_of_ble_eq_true rfl) rfl ?_
      refine v_iinc F (pc := 39) (lo' := [some (.ref (P 0)), some (.int (iI (n))), some (.int (iI (p))), some (.int (iI (w))), some (.int (iI (c))), some (.ref q), some (.int (iI ((0 + (cCW r (smo τ q (τ 0 0) n p w c) b 0 q)) + (cCW r (smo τ q (τ 0 0) n p w c) b 1 q)))), some (.int (iI (2))), none]) dX4_roomByCounting_39 rfl (Nat.le_of_ble_eq_true rfl) rfl ?_
      refine v_goto F (pc := 42) 17 dX4_roomByCounting_42 (by decide) ?_
      refine v_iload F (pc := 17) dX4_roomByCounting_17 rfl ?_
      refine v_iconst F (pc := 19) dX4_roomByCounting_19 ?_
      refine v_icmp_ge F (pc := 20) (a := 2) (b := 4) 45 dX4_roomByCounting_20 (by decide) (by omega) (by omega) (fun c_5 => ?_) (fun c_5 => ?_)
      · exact absurd c_5 (by decide)
      · refine v_iload F (pc := 23) dX4_roomByCounting_23 rfl ?_
        refine v_aload_n F (pc := 25) dX4_roomByCounting_25 rfl ?_
        refine v_getf F (pc := 26) fd_X4_35_7 (v := .ref (P b)) dX4_roomByCounting_26 (ch_0 hkn) rfl ?_
        refine v_iload F (pc := 29) dX4_roomByCounting_29 rfl ?_
        refine v_aload F (pc := 31) dX4_roomByCounting_31 rfl ?_
        refine v_callVp F (pc := 33) (As := [.int (iI (2)), .ref q]) (rest := [.int (iI ((0 + (cCW r (smo τ q (τ 0 0) n p w c) b 0 q)) + (cCW r (smo τ q (τ 0 0) n p w c) b 1 q)))]) ci_X4_231 ct_X0_countForRow cs_X0_countForRow (k_X0_countForRow l g hb hkn (τ := (smo τ q (τ 0 0) n p w c)) (K := (kup K q 1)) (r := r) (cp := cp) (b := b) (b' := b') hVn hWn hMLn 2 (by omega) (kup_s K q 1)) dX4_roomByCounting_33 (k0 := 3) rfl rfl (ch_lo hkn hb) rfl rfl (Nat.le_of_ble_eq_true rfl) (Nat.le_of_ble_eq_true rfl) (Nat.le_of_ble_eq_true rfl) (Nat.le_of_ble_eq_true rfl) (Nat.le_of_ble_eq_true rfl) ?_ (fun _ _ z => z.elim)
        have rg_6 := cCW_rng (row := 2) hVn hWn hMLn (kup_s K q 1) (by decide) (by decide)
        refine v_iadd F (pc := 36) (a := (0 + (cCW r (smo τ q (τ 0 0) n p w c) b 0 q)) + (cCW r (smo τ q (τ 0 0) n p w c) b 1 q)) (b := cCW r (smo τ q (τ 0 0) n p w c) b 2 q) dX4_roomByCounting_36 ?_
        refine v_istore F (pc := 37) (lo' := [some (.ref (P 0)), some (.int (iI (n))), some (.int (iI (p))), some (.int (iI (w))), some (.int (iI (c))), some (.ref q), some (.int (iI (((0 + (cCW r (smo τ q (τ 0 0) n p w c) b 0 q)) + (cCW r (smo τ q (τ 0 0) n p w c) b 1 q)) + (cCW r (smo τ q (τ 0 0) n p w c) b 2 q)))), some (.int (iI (2))), none]) dX4_roomByCounting_37 (Nat.le_of_ble_eq_true rfl) rfl ?_
        refine v_iinc F (pc := 39) (lo' := [some (.ref (P 0)), some (.int (iI (n))), some (.int (iI (p))), some (.int (iI (w))), some (.int (iI (c))), some (.ref q), some (.int (iI (((0 + (cCW r (smo τ q (τ 0 0) n p w c) b 0 q)) + (cCW r (smo τ q (τ 0 0) n p w c) b 1 q)) + (cCW r (smo τ q (τ 0 0) n p w c) b 2 q)))), some (.int (iI (3))), none]) dX4_roomByCounting_39 rfl (Nat.le_of_ble_eq_true rfl) rfl ?_
        refine v_goto F (pc := 42) 17 dX4_roomByCounting_42 (by decide) ?_
        refine v_iload F (pc := 17) dX4_roomByCounting_17 rfl ?_
        refine v_iconst F (pc := 19) dX4_roomByCounting_19 ?_
        refine v_icmp_ge F (pc := 20) (a := 3) (b := 4) 45 dX4_roomByCounting_20 (by decide) (by omega) (by omega) (fun c_7 => ?_) (fun c_7 => ?_)
        · exact absurd c_7 (by decide)
        · refine v_iload F (pc := 23) dX4_roomByCounting_23 rfl ?_
          refine v_aload_n F (pc := 25) dX4_roomByCounting_25 rfl ?_
          refine v_getf F (pc := 26) fd_X4_35_7 (v := .ref (P b)) dX4_roomByCounting_26 (ch_0 hkn) rfl ?_
          refine v_iload F (pc := 29) dX4_roomByCounting_29 rfl ?_
          refine v_aload F (pc := 31) dX4_roomByCounting_31 rfl ?_
          refine v_callVp F (pc := 33) (As := [.int (iI (3)), .ref q]) (rest := [.int (iI (((0 + (cCW r (smo τ q (τ 0 0) n p w c) b 0 q)) + (cCW r (smo τ q (τ 0 0) n p w c) b 1 q)) + (cCW r (smo τ q (τ 0 0) n p w c) b 2 q)))]) ci_X4_231 ct_X0_countForRow cs_X0_countForRow (k_X0_countForRow l g hb hkn (τ := (smo τ q (τ 0 0) n p w c)) (K := (kup K q 1)) (r := r) (cp := cp) (b := b) (b' := b') hVn hWn hMLn 3 (by omega) (kup_s K q 1)) dX4_roomByCounting_33 (k0 := 3) rfl rfl (ch_lo hkn hb) rfl rfl (Nat.le_of_ble_eq_true rfl) (Nat.le_of_ble_eq_true rfl) (Nat.le_of_ble_eq_true rfl) (Nat.le_of_ble_eq_true rfl) (Nat.le_of_ble_eq_true rfl) ?_ (fun _ _ z => z.elim)
          have rg_8 := cCW_rng (row := 3) hVn hWn hMLn (kup_s K q 1) (by decide) (by decide)
          refine v_iadd F (pc := 36) (a := ((0 + (cCW r (smo τ q (τ 0 0) n p w c) b 0 q)) + (cCW r (smo τ q (τ 0 0) n p w c) b 1 q)) + (cCW r (smo τ q (τ 0 0) n p w c) b 2 q)) (b := cCW r (smo τ q (τ 0 0) n p w c) b 3 q) dX4_roomByCounting_36 ?_
          refine v_istore F (pc := 37) (lo' := [some (.ref (P 0)), some (.int (iI (n))), some (.int (iI (p))), some (.int (iI (w))), some (.int (iI (c))), some (.ref q), some (.int (iI ((((0 + (cCW r (smo τ q (τ 0 0) n p w c) b 0 q)) + (cCW r (smo τ q (τ 0 0) n p w c) b 1 q)) + (cCW r (smo τ q (τ 0 0) n p w c) b 2 q)) + (cCW r (smo τ q (τ 0 0) n p w c) b 3 q)))), some (.int (iI (3))), none]) dX4_roomByCounting_37 (Nat.le_of_ble_eq_true rfl) rfl ?_
          refine v_iinc F (pc := 39) (lo' := [some (.ref (P 0)), some (.int (iI (n))), some (.int (iI (p))), some (.int (iI (w))), some (.int (iI (c))), some (.ref q), some (.int (iI ((((0 + (cCW r (smo τ q (τ 0 0) n p w c) b 0 q)) + (cCW r (smo τ q (τ 0 0) n p w c) b 1 q)) + (cCW r (smo τ q (τ 0 0) n p w c) b 2 q)) + (cCW r (smo τ q (τ 0 0) n p w c) b 3 q)))), some (.int (iI (4))), none]) dX4_roomByCounting_39 rfl (Nat.le_of_ble_eq_true rfl) rfl ?_
          refine v_goto F (pc := 42) 17 dX4_roomByCounting_42 (by decide) ?_
          refine v_iload F (pc := 17) dX4_roomByCounting_17 rfl ?_
          refine v_iconst F (pc := 19) dX4_roomByCounting_19 ?_
          refine v_icmp_ge F (pc := 20) (a := 4) (b := 4) 45 dX4_roomByCounting_20 (by decide) (by omega) (by omega) (fun c_9 => ?_) (fun c_9 => ?_)
          · refine v_iconst F (pc := 45) dX4_roomByCounting_45 ?_
            refine v_istore F (pc := 46) (lo' := [some (.ref (P 0)), some (.int (iI (n))), some (.int (iI (p))), some (.int (iI (w))), some (.int (iI (c))), some (.ref q), some (.int (iI ((((0 + (cCW r (smo τ q (τ 0 0) n p w c) b 0 q)) + (cCW r (smo τ q (τ 0 0) n p w c) b 1 q)) + (cCW r (smo τ q (τ 0 0) n p w c) b 2 q)) + (cCW r (smo τ q (τ 0 0) n p w c) b 3 q)))), some (.int (iI (0))), none]) dX4_roomByCounting_46 (Nat.le_of_ble_eq_true rfl) rfl ?_
            refine v_iload F (pc := 48) dX4_roomByCounting_48 rfl ?_
            refine v_iconst F (pc := 50) dX4_roomByCounting_50 ?_
            refine v_icmp_ge F (pc := 51) (a := 0) (b := 2) 98 dX4_roomByCounting_51 (by decide) (by omega) (by omega) (fun c_10 => ?_) (fun c_10 => ?_)
            · exact absurd c_10 (by decide)
            · refine v_aload_n F (pc := 54) dX4_roomByCounting_54 rfl ?_
              refine v_getf F (pc := 55) fd_X4_12_7 (v := .ref (P 1)) dX4_roomByCounting_55 (ch_0 hkn) rfl ?_
              refine v_getf F (pc := 58) fd_X4_98_6 (v := .ref (P 22)) dX4_roomByCounting_58 (ch_1 hkn) rfl ?_
              refine v_iload F (pc := 61) dX4_roomByCounting_61 rfl ?_
              refine v_iald F (pc := 63) (n := 2) (f := τ 22) (z := 0) dX4_roomByCounting_63 (ch_22 hkn) (by omega) (by decide) ?_
              have bd_11 := hS22 0 (by omega) (by omega)
              refine v_aload_n F (pc := 64) dX4_roomByCounting_64 rfl ?_
              refine v_getf F (pc := 65) fd_X4_35_7 (v := .ref (P b)) dX4_roomByCounting_65 (ch_0 hkn) rfl ?_
              refine v_iload F (pc := 68) dX4_roomByCounting_68 rfl ?_
              refine v_callVp F (pc := 70) (As := [.int (iI (0))]) (rest := [.int (iI ((τ 22) 0))]) ci_X4_93 ct_X0_worstOnFeed cs_X0_worstOnFeed (k_X0_worstOnFeed l g hb hkn (τ := (smo τ q (τ 0 0) n p w c)) (K := (kup K q 1)) (r := r) (cp := cp) (b := b) (b' := b') hVn 0 (by omega)) dX4_roomByCounting_70 (k0 := 3) rfl rfl (ch_lo hkn hb) rfl rfl (Nat.le_of_ble_eq_true rfl) (Nat.le_of_ble_eq_true rfl) (Nat.le_of_ble_eq_true rfl) (Nat.le_of_ble_eq_true rfl) (Nat.le_of_ble_eq_true rfl) ?_ (fun _ _ z => z.elim)
              have rg_12 : -8000000 ≤ cAll (smo τ q (τ 0 0) n p w c) (b + 5) ∧ cAll (smo τ q (τ 0 0) n p w c) (b + 5) ≤ 8000000 := cAll_rng hn8.1 hn8.2 hWn.2.2.2.1
              refine v_isub F (pc := 73) (a := (τ 22) 0) (b := cAll (smo τ q (τ 0 0) n p w c) (b + 5)) dX4_roomByCounting_73 ?_
              refine v_istore F (pc := 74) (lo' := [some (.ref (P 0)), some (.int (iI (n))), some (.int (iI (p))), some (.int (iI (w))), some (.int (iI (c))), some (.ref q), some (.int (iI ((((0 + (cCW r (smo τ q (τ 0 0) n p w c) b 0 q)) + (cCW r (smo τ q (τ 0 0) n p w c) b 1 q)) + (cCW r (smo τ q (τ 0 0) n p w c) b 2 q)) + (cCW r (smo τ q (τ 0 0) n p w c) b 3 q)))), some (.int (iI (0))), some (.int (iI (((τ 22) 0) - (cAll (smo τ q (τ 0 0) n p w c) (b + 5)))))]) dX4_roomByCounting_74 (Nat.le_of_ble_eq_true rfl) rfl ?_
              refine v_iload F (pc := 76) dX4_roomByCounting_76 rfl ?_
              refine v_iload F (pc := 78) dX4_roomByCounting_78 rfl ?_
              refine v_aload F (pc := 80) dX4_roomByCounting_80 rfl ?_
              refine v_iload F (pc := 82) dX4_roomByCounting_82 rfl ?_
              refine v_callVp F (pc := 84) (As := [.int (iI (0))]) (rest := [.int (iI (((τ 22) 0) - (cAll (smo τ q (τ 0 0) n p w c) (b + 5)))), .int (iI ((((0 + (cCW r (smo τ q (τ 0 0) n p w c) b 0 q)) + (cCW r (smo τ q (τ 0 0) n p w c) b 1 q)) + (cCW r (smo τ q (τ 0 0) n p w c) b 2 q)) + (cCW r (smo τ q (τ 0 0) n p w c) b 3 q)))]) ci_X4_234 ct_X1_worstOn cs_X1_worstOn (k_X1_worstOn l g hkn (τ := (smo τ q (τ 0 0) n p w c)) (K := (kup K q 1)) (r := r) (cp := cp) (b := b) (b' := b') (m := q) (kup_s K q 1) hmqn 0 (by omega)) dX4_roomByCounting_84 (k0 := 4) rfl rfl (ch_m hkn (kup_s K q 1)) rfl rfl (Nat.le_of_ble_eq_true rfl) (Nat.le_of_ble_eq_true rfl) (Nat.le_of_ble_eq_true rfl) (Nat.le_of_ble_eq_true rfl) (Nat.le_of_ble_eq_true rfl) ?_ (fun _ _ z => z.elim)
              refine v_callSp F (pc := 87) (As := [.int (iI ((((0 + (cCW r (smo τ q (τ 0 0) n p w c) b 0 q)) + (cCW r (smo τ q (τ 0 0) n p w c) b 1 q)) + (cCW r (smo τ q (τ 0 0) n p w c) b 2 q)) + (cCW r (smo τ q (τ 0 0) n p w c) b 3 q))), .int (iI (((τ 22) 0) - (cAll (smo τ q (τ 0 0) n p w c) (b + 5)))), .int (iI (m_pw ((smo τ q (τ 0 0) n p w c) 34 q) 0 ((smo τ q (τ 0 0) n p w c) 32 q)))]) (rest := []) ci_X4_237 ct_X4_atMost (k_X4_atMost l g ((((0 + (cCW r (smo τ q (τ 0 0) n p w c) b 0 q)) + (cCW r (smo τ q (τ 0 0) n p w c) b 1 q)) + (cCW r (smo τ q (τ 0 0) n p w c) b 2 q)) + (cCW r (smo τ q (τ 0 0) n p w c) b 3 q)) (((τ 22) 0) - (cAll (smo τ q (τ 0 0) n p w c) (b + 5))) (m_pw ((smo τ q (τ 0 0) n p w c) 34 q) 0 ((smo τ q (τ 0 0) n p w c) 32 q)) (by omega) (by omega) (by omega)) dX4_roomByCounting_87 rfl rfl (Nat.le_of_ble_eq_true rfl) (Nat.le_of_ble_eq_true rfl) (Nat.le_of_ble_eq_true rfl) (Nat.le_of_ble_eq_true rfl) (Nat.le_of_ble_eq_true rfl) ?_ (fun _ _ z => z.elim)
              have rg_13 : 0 ≤ cAM ((((0 + (cCW r (smo τ q (τ 0 0) n p w c) b 0 q)) + (cCW r (smo τ q (τ 0 0) n p w c) b 1 q)) + (cCW r (smo τ q (τ 0 0) n p w c) b 2 q)) + (cCW r (smo τ q (τ 0 0) n p w c) b 3 q)) (((τ 22) 0) - (cAll (smo τ q (τ 0 0) n p w c) (b + 5))) (m_pw ((smo τ q (τ 0 0) n p w c) 34 q) 0 ((smo τ q (τ 0 0) n p w c) 32 q)) ∧ cAM ((((0 + (cCW r (smo τ q (τ 0 0) n p w c) b 0 q)) + (cCW r (smo τ q (τ 0 0) n p w c) b 1 q)) + (cCW r (smo τ q (τ 0 0) n p w c) b 2 q)) + (cCW r (smo τ q (τ 0 0) n p w c) b 3 q)) (((τ 22) 0) - (cAll (smo τ q (τ 0 0) n p w c) (b + 5))) (m_pw ((smo τ q (τ 0 0) n p w c) 34 q) 0 ((smo τ q (τ 0 0) n p w c) 32 q)) ≤ ((((0 + (cCW r (smo τ q (τ 0 0) n p w c) b 0 q)) + (cCW r (smo τ q (τ 0 0) n p w c) b 1 q)) + (cCW r (smo τ q (τ 0 0) n p w c) b 2 q)) + (cCW r (smo τ q (τ 0 0) n p w c) b 3 q)) := cAM_rng (by omega) (by omega)
              refine v_istore F (pc := 90) (lo' := [some (.ref (P 0)), some (.int (iI (n))), some (.int (iI (p))), some (.int (iI (w))), some (.int (iI (c))), some (.ref q), some (.int (iI (cAM ((((0 + (cCW r (smo τ q (τ 0 0) n p w c) b 0 q)) + (cCW r (smo τ q (τ 0 0) n p w c) b 1 q)) + (cCW r (smo τ q (τ 0 0) n p w c) b 2 q)) + (cCW r (smo τ q (τ 0 0) n p w c) b 3 q)) (((τ 22) 0) - (cAll (smo τ q (τ 0 0) n p w c) (b + 5))) (m_pw ((smo τ q (τ 0 0) n p w c) 34 q) 0 ((smo τ q (τ 0 0) n p w c) 32 q))))), some (.int (iI (0))), some (.int (iI (((τ 22) 0) - (cAll (smo τ q (τ 0 0) n p w c) (b + 5)))))]) dX4_roomByCounting_90 (Nat.le_of_ble_eq_true rfl) rfl ?_
              refine v_iinc F (pc := 92) (lo' := [some (.ref (P 0)), some (.int (iI (n))), some (.int (iI (p))), some (.int (iI (w))), some (.int (iI (c))), some (.ref q), some (.int (iI (cAM ((((0 + (cCW r (smo τ q (τ 0 0) n p w c) b 0 q)) + (cCW r (smo τ q (τ 0 0) n p w c) b 1 q)) + (cCW r (smo τ q (τ 0 0) n p w c) b 2 q)) + (cCW r (smo τ q (τ 0 0) n p w c) b 3 q)) (((τ 22) 0) - (cAll (smo τ q (τ 0 0) n p w c) (b + 5))) (m_pw ((smo τ q (τ 0 0) n p w c) 34 q) 0 ((smo τ q (τ 0 0) n p w c) 32 q))))), some (.int (iI (1))), some (.int (iI (((τ 22) 0) - (cAll (smo τ q (τ 0 0) n p w c) (b + 5)))))]) dX4_roomByCounting_92 rfl (Nat.le_of_ble_eq_true rfl) rfl ?_
              refine v_goto F (pc := 95) 48 dX4_roomByCounting_95 (by decide) ?_
              refine v_iload F (pc := 48) dX4_roomByCounting_48 rfl ?_
              refine v_iconst F (pc := 50) dX4_roomByCounting_50 ?_
              refine v_icmp_ge F (pc := 51) (a := 1) (b := 2) 98 dX4_roomByCounting_51 (by decide) (by omega) (by omega) (fun c_14 => ?_) (fun c_14 => ?_)
              · exact absurd c_14 (by decide)
              · refine v_aload_n F (pc := 54) dX4_roomByCounting_54 rfl ?_
                refine v_getf F (pc := 55) fd_X4_12_7 (v := .ref (P 1)) dX4_roomByCounting_55 (ch_0 hkn) rfl ?_
                refine v_getf F (pc := 58) fd_X4_98_6 (v := .ref (P 22)) dX4_roomByCounting_58 (ch_1 hkn) rfl ?_
                refine v_iload F (pc := 61) dX4_roomByCounting_61 rfl ?_
                refine v_iald F (pc := 63) (n := 2) (f := τ 22) (z := 1) dX4_roomByCounting_63 (ch_22 hkn) (by omega) (by decide) ?_
                have bd_15 := hS22 1 (by omega) (by omega)
                refine v_aload_n F (pc := 64) dX4_roomByCounting_64 rfl ?_
                refine v_getf F (pc := 65) fd_X4_35_7 (v := .ref (P b)) dX4_roomByCounting_65 (ch_0 hkn) rfl ?_
                refine v_iload F (pc := 68) dX4_roomByCounting_68 rfl ?_
                refine v_callVp F (pc := 70) (As := [.int (iI (1))]) (rest := [.int (iI ((τ 22) 1))]) ci_X4_93 ct_X0_worstOnFeed cs_X0_worstOnFeed (k_X0_worstOnFeed l g hb hkn (τ := (smo τ q (τ 0 0) n p w c)) (K := (kup K q 1)) (r := r) (cp := cp) (b := b) (b' := b') hVn 1 (by omega)) dX4_roomByCounting_70 (k0 := 3) rfl rfl (ch_lo hkn hb) rfl rfl (Nat.le_of_ble_eq_true rfl) (Nat.le_of_ble_eq_true rfl) (Nat.le_of_ble_eq_true rfl) (Nat.le_of_ble_eq_true rfl) (Nat.le_of_ble_eq_true rfl) ?_ (fun _ _ z => z.elim)
                have rg_16 : -8000000 ≤ cAll (smo τ q (τ 0 0) n p w c) (b + 6) ∧ cAll (smo τ q (τ 0 0) n p w c) (b + 6) ≤ 8000000 := cAll_rng hn8.1 hn8.2 hWn.2.2.2.2
                refine v_isub F (pc := 73) (a := (τ 22) 1) (b := cAll (smo τ q (τ 0 0) n p w c) (b + 6)) dX4_roomByCounting_73 ?_
                refine v_istore F (pc := 74) (lo' := [some (.ref (P 0)), some (.int (iI (n))), some (.int (iI (p))), some (.int (iI (w))), some (.int (iI (c))), some (.ref q), some (.int (iI (cAM ((((0 + (cCW r (smo τ q (τ 0 0) n p w c) b 0 q)) + (cCW r (smo τ q (τ 0 0) n p w c) b 1 q)) + (cCW r (smo τ q (τ 0 0) n p w c) b 2 q)) + (cCW r (smo τ q (τ 0 0) n p w c) b 3 q)) (((τ 22) 0) - (cAll (smo τ q (τ 0 0) n p w c) (b + 5))) (m_pw ((smo τ q (τ 0 0) n p w c) 34 q) 0 ((smo τ q (τ 0 0) n p w c) 32 q))))), some (.int (iI (1))), some (.int (iI (((τ 22) 1) - (cAll (smo τ q (τ 0 0) n p w c) (b + 6)))))]) dX4_roomByCounting_74 (Nat.le_of_ble_eq_true rfl) rfl ?_
                refine v_iload F (pc := 76) dX4_roomByCounting_76 rfl ?_
                refine v_iload F (pc := 78) dX4_roomByCounting_78 rfl ?_
                refine v_aload F (pc := 80) dX4_roomByCounting_80 rfl ?_
                refine v_iload F (pc := 82) dX4_roomByCounting_82 rfl ?_
                refine v_callVp F (pc := 84) (As := [.int (iI (1))]) (rest := [.int (iI (((τ 22) 1) - (cAll (smo τ q (τ 0 0) n p w c) (b + 6)))), .int (iI (cAM ((((0 + (cCW r (smo τ q (τ 0 0) n p w c) b 0 q)) + (cCW r (smo τ q (τ 0 0) n p w c) b 1 q)) + (cCW r (smo τ q (τ 0 0) n p w c) b 2 q)) + (cCW r (smo τ q (τ 0 0) n p w c) b 3 q)) (((τ 22) 0) - (cAll (smo τ q (τ 0 0) n p w c) (b + 5))) (m_pw ((smo τ q (τ 0 0) n p w c) 34 q) 0 ((smo τ q (τ 0 0) n p w c) 32 q))))]) ci_X4_234 ct_X1_worstOn cs_X1_worstOn (k_X1_worstOn l g hkn (τ := (smo τ q (τ 0 0) n p w c)) (K := (kup K q 1)) (r := r) (cp := cp) (b := b) (b' := b') (m := q) (kup_s K q 1) hmqn 1 (by omega)) dX4_roomByCounting_84 (k0 := 4) rfl rfl (ch_m hkn (kup_s K q 1)) rfl rfl (Nat.le_of_ble_eq_true rfl) (Nat.le_of_ble_eq_true rfl) (Nat.le_of_ble_eq_true rfl) (Nat.le_of_ble_eq_true rfl) (Nat.le_of_ble_eq_true rfl) ?_ (fun _ _ z => z.elim)
                refine v_callSp F (pc := 87) (As := [.int (iI (cAM ((((0 + (cCW r (smo τ q (τ 0 0) n p w c) b 0 q)) + (cCW r (smo τ q (τ 0 0) n p w c) b 1 q)) + (cCW r (smo τ q (τ 0 0) n p w c) b 2 q)) + (cCW r (smo τ q (τ 0 0) n p w c) b 3 q)) (((τ 22) 0) - (cAll (smo τ q (τ 0 0) n p w c) (b + 5))) (m_pw ((smo τ q (τ 0 0) n p w c) 34 q) 0 ((smo τ q (τ 0 0) n p w c) 32 q)))), .int (iI (((τ 22) 1) - (cAll (smo τ q (τ 0 0) n p w c) (b + 6)))), .int (iI (m_pw ((smo τ q (τ 0 0) n p w c) 34 q) 1 ((smo τ q (τ 0 0) n p w c) 32 q)))]) (rest := []) ci_X4_237 ct_X4_atMost (k_X4_atMost l g (cAM ((((0 + (cCW r (smo τ q (τ 0 0) n p w c) b 0 q)) + (cCW r (smo τ q (τ 0 0) n p w c) b 1 q)) + (cCW r (smo τ q (τ 0 0) n p w c) b 2 q)) + (cCW r (smo τ q (τ 0 0) n p w c) b 3 q)) (((τ 22) 0) - (cAll (smo τ q (τ 0 0) n p w c) (b + 5))) (m_pw ((smo τ q (τ 0 0) n p w c) 34 q) 0 ((smo τ q (τ 0 0) n p w c) 32 q))) (((τ 22) 1) - (cAll (smo τ q (τ 0 0) n p w c) (b + 6))) (m_pw ((smo τ q (τ 0 0) n p w c) 34 q) 1 ((smo τ q (τ 0 0) n p w c) 32 q)) (by omega) (by omega) (by omega)) dX4_roomByCounting_87 rfl rfl (Nat.le_of_ble_eq_true rfl) (Nat.le_of_ble_eq_true rfl) (Nat.le_of_ble_eq_true rfl) (Nat.le_of_ble_eq_true rfl) (Nat.le_of_ble_eq_true rfl) ?_ (fun _ _ z => z.elim)
                have rg_17 : 0 ≤ cAM (cAM ((((0 + (cCW r (smo τ q (τ 0 0) n p w c) b 0 q)) + (cCW r (smo τ q (τ 0 0) n p w c) b 1 q)) + (cCW r (smo τ q (τ 0 0) n p w c) b 2 q)) + (cCW r (smo τ q (τ 0 0) n p w c) b 3 q)) (((τ 22) 0) - (cAll (smo τ q (τ 0 0) n p w c) (b + 5))) (m_pw ((smo τ q (τ 0 0) n p w c) 34 q) 0 ((smo τ q (τ 0 0) n p w c) 32 q))) (((τ 22) 1) - (cAll (smo τ q (τ 0 0) n p w c) (b + 6))) (m_pw ((smo τ q (τ 0 0) n p w c) 34 q) 1 ((smo τ q (τ 0 0) n p w c) 32 q)) ∧ cAM (cAM ((((0 + (cCW r (smo τ q (τ 0 0) n p w c) b 0 q)) + (cCW r (smo τ q (τ 0 0) n p w c) b 1 q)) + (cCW r (smo τ q (τ 0 0) n p w c) b 2 q)) + (cCW r (smo τ q (τ 0 0) n p w c) b 3 q)) (((τ 22) 0) - (cAll (smo τ q (τ 0 0) n p w c) (b + 5))) (m_pw ((smo τ q (τ 0 0) n p w c) 34 q) 0 ((smo τ q (τ 0 0) n p w c) 32 q))) (((τ 22) 1) - (cAll (smo τ q (τ 0 0) n p w c) (b + 6))) (m_pw ((smo τ q (τ 0 0) n p w c) 34 q) 1 ((smo τ q (τ 0 0) n p w c) 32 q)) ≤ (cAM ((((0 + (cCW r (smo τ q (τ 0 0) n p w c) b 0 q)) + (cCW r (smo τ q (τ 0 0) n p w c) b 1 q)) + (cCW r (smo τ q (τ 0 0) n p w c) b 2 q)) + (cCW r (smo τ q (τ 0 0) n p w c) b 3 q)) (((τ 22) 0) - (cAll (smo τ q (τ 0 0) n p w c) (b + 5))) (m_pw ((smo τ q (τ 0 0) n p w c) 34 q) 0 ((smo τ q (τ 0 0) n p w c) 32 q))) := cAM_rng (by omega) (by omega)
                refine v_istore F (pc := 90) (lo' := [some (.ref (P 0)), some (.int (iI (n))), some (.int (iI (p))), some (.int (iI (w))), some (.int (iI (c))), some (.ref q), some (.int (iI (cAM (cAM ((((0 + (cCW r (smo τ q (τ 0 0) n p w c) b 0 q)) + (cCW r (smo τ q (τ 0 0) n p w c) b 1 q)) + (cCW r (smo τ q (τ 0 0) n p w c) b 2 q)) + (cCW r (smo τ q (τ 0 0) n p w c) b 3 q)) (((τ 22) 0) - (cAll (smo τ q (τ 0 0) n p w c) (b + 5))) (m_pw ((smo τ q (τ 0 0) n p w c) 34 q) 0 ((smo τ q (τ 0 0) n p w c) 32 q))) (((τ 22) 1) - (cAll (smo τ q (τ 0 0) n p w c) (b + 6))) (m_pw ((smo τ q (τ 0 0) n p w c) 34 q) 1 ((smo τ q (τ 0 0) n p w c) 32 q))))), some (.int (iI (1))), some (.int (iI (((τ 22) 1) - (cAll (smo τ q (τ 0 0) n p w c) (b + 6)))))]) dX4_roomByCounting_90 (Nat.le_of_ble_eq_true rfl) rfl ?_
                refine v_iinc F (pc := 92) (lo' := [some (.ref (P 0)), some (.int (iI (n))), some (.int (iI (p))), some (.int (iI (w))), some (.int (iI (c))), some (.ref q), some (.int (iI (cAM (cAM ((((0 + (cCW r (smo τ q (τ 0 0) n p w c) b 0 q)) + (cCW r (smo τ q (τ 0 0) n p w c) b 1 q)) + (cCW r (smo τ q (τ 0 0) n p w c) b 2 q)) + (cCW r (smo τ q (τ 0 0) n p w c) b 3 q)) (((τ 22) 0) - (cAll (smo τ q (τ 0 0) n p w c) (b + 5))) (m_pw ((smo τ q (τ 0 0) n p w c) 34 q) 0 ((smo τ q (τ 0 0) n p w c) 32 q))) (((τ 22) 1) - (cAll (smo τ q (τ 0 0) n p w c) (b + 6))) (m_pw ((smo τ q (τ 0 0) n p w c) 34 q) 1 ((smo τ q (τ 0 0) n p w c) 32 q))))), some (.int (iI (2))), some (.int (iI (((τ 22) 1) - (cAll (smo τ q (τ 0 0) n p w c) (b + 6)))))]) dX4_roomByCounting_92 rfl (Nat.le_of_ble_eq_true rfl) rfl ?_
                refine v_goto F (pc := 95) 48 dX4_roomByCounting_95 (by decide) ?_
                refine v_iload F (pc := 48) dX4_roomByCounting_48 rfl ?_
                refine v_iconst F (pc := 50) dX4_roomByCounting_50 ?_
                refine v_icmp_ge F (pc := 51) (a := 2) (b := 2) 98 dX4_roomByCounting_51 (by decide) (by omega) (by omega) (fun c_18 => ?_) (fun c_18 => ?_)
                · refine v_iload F (pc := 98) dX4_roomByCounting_98 rfl ?_
                  refine V.sub (h' := cheap g P K r cp b b' τ) ?_ (ch_subm hk nq _ _ _ _ _)
                  refine v_iret F (pc := 100) (z := (iI (cAM (cAM ((((0 + (cCW r (smo τ q (τ 0 0) n p w c) b 0 q)) + (cCW r (smo τ q (τ 0 0) n p w c) b 1 q)) + (cCW r (smo τ q (τ 0 0) n p w c) b 2 q)) + (cCW r (smo τ q (τ 0 0) n p w c) b 3 q)) (((τ 22) 0) - (cAll (smo τ q (τ 0 0) n p w c) (b + 5))) (m_pw ((smo τ q (τ 0 0) n p w c) 34 q) 0 ((smo τ q (τ 0 0) n p w c) 32 q))) (((τ 22) 1) - (cAll (smo τ q (τ 0 0) n p w c) (b + 6))) (m_pw ((smo τ q (τ 0 0) n p w c) 34 q) 1 ((smo τ q (τ 0 0) n p w c) 32 q))))) dX4_roomByCounting_100 rfl rfl (Nat.le_of_ble_eq_true rfl) (Nat.le_of_ble_eq_true rfl) ?_
                  exact ⟨rfl, hkd, q, hfr.2.1, hfr.2.2, by unfold cCA; rfl⟩
                · exact absurd c_18 (by decide)
          · exact absurd c_9 (by decide)
-- X4_swapLayouts
set_option maxRecDepth 100000 in
set_option maxHeartbeats 8000000 in
theorem k_X4_swapLayouts (l : Launch) (g : gT) {P K : Nat → Nat} {r : Nat → Int → Option Nat} {cp : Nat → Nat} {b b' : Nat} {τ : sT} (hk : cok P K cp) : CM l g yX4_swapLayouts cX4_swapLayouts 2 none ({ frames := 1, cells := 0, slots := 0, locals := 20 }) [.ref (P 0)] (cheap g P K r cp b b' τ) (pV none (cheap g P K r cp b' b τ)) (noX) := by
  refine CM.of (lo := [some (.ref (P 0)), none]) (by decide) (Nat.le_of_ble_eq_true rfl) (by simp [Value.category]) rfl ?_
  intro pX eX sX mX bX tX cX AX F htab hmn
  have F : Fx pX l sX mX ([.ref (P 0)] : List Value).toArray tX cX cX4_swapLayouts 2 none RX4 g AX := F
  refine v_aload_n F (pc := 0) dX4_swapLayouts_0 rfl ?_
  refine v_getf F (pc := 1) fd_X4_39_7 (v := .ref (P b')) dX4_swapLayouts_1 (ch_0 hk) rfl ?_
  refine v_astore_n F (pc := 4) (lo' := [some (.ref (P 0)), some (.ref (P b'))]) dX4_swapLayouts_4 (Nat.le_of_ble_eq_true rfl) rfl ?_
  refine v_aload_n F (pc := 5) dX4_swapLayouts_5 rfl ?_
  refine v_aload_n F (pc := 6) dX4_swapLayouts_6 rfl ?_
  refine v_getf F (pc := 7) fd_X4_35_7 (v := .ref (P b)) dX4_swapLayouts_7 (ch_0 hk) rfl ?_
  refine v_putf F (pc := 10) fp_X4_39_7 dX4_swapLayouts_10 (ch_0 hk) rfl rfl (Nat.le_of_ble_eq_true rfl) (h' := cheap g P K r cp b b τ) (cu_b' hk b) ?_
  refine v_aload_n F (pc := 13) dX4_swapLayouts_13 rfl ?_
  refine v_aload_n F (pc := 14) dX4_swapLayouts_14 rfl ?_
  refine v_putf F (pc := 15) fp_X4_35_7 dX4_swapLayouts_15 (ch_0 hk) rfl rfl (Nat.le_of_ble_eq_true rfl) (h' := cheap g P K r cp b' b τ) (cu_b hk b') ?_
  refine v_vret F (pc := 18) dX4_swapLayouts_18 rfl (Nat.le_of_ble_eq_true rfl) (Nat.le_of_ble_eq_true rfl) ?_
  exact ⟨rfl, rfl⟩
-- X4_moveToPacked
set_option maxRecDepth 100000 in
set_option maxHeartbeats 8000000 in
theorem k_X4_moveToPacked (l : Launch) (g : gT) {P K : Nat → Nat} {r : Nat → Int → Option Nat} {cp : Nat → Nat} {b b' : Nat} {τ : sT} (hk : cok P K cp) (hV : CV K r cp τ) : CM l g yX4_moveToPacked cX4_moveToPacked 4 (some .int) ({ frames := 4, cells := 0, slots := 0, locals := 84 }) [.ref (P 0)] (cheap g P K r cp b b' τ) (fun v h1 => ∃ n : Nat, (n : Int) = τ 53 0 ∧ v = some (.int (iI (cMc r τ n))) ∧ h1 = cheap g P K r cp b b' (cMv r τ n)) (noX) := by
  refine CM.of (lo := [some (.ref (P 0)), none, none, none]) (by decide) (Nat.le_of_ble_eq_true rfl) (by simp [Value.category]) rfl ?_
  intro pX eX sX mX bX tX cX AX F htab hmn
  have F : Fx pX l sX mX ([.ref (P 0)] : List Value).toArray tX cX cX4_moveToPacked 4 (some .int) RX4 g AX := F
  have hM := hV.1
  have hR := hV.2.1
  have hL0 := hV.2.2.1
  have hL1 := hV.2.2.2.1
  have hL2 := hV.2.2.2.2.1
  have hS20 := hV.2.2.2.2.2.1
  have hS21 := hV.2.2.2.2.2.2.1
  have hS22 := hV.2.2.2.2.2.2.2.1
  have hS2 := hV.2.2.2.2.2.2.2.2.1
  have hn8 : 0 ≤ τ 55 0 ∧ τ 55 0 ≤ 8 := ⟨hL2.1, hL2.2.2.2.1⟩
  have hn60 : 0 ≤ τ 53 0 ∧ τ 53 0 ≤ 60 := ⟨hL0.1, hL0.2.2.2.1⟩
  refine v_iconst F (pc := 0) dX4_moveToPacked_0 ?_
  refine v_istore_n F (pc := 1) (lo' := [some (.ref (P 0)), some (.int (iI (0))), none, none]) dX4_moveToPacked_1 (Nat.le_of_ble_eq_true rfl) rfl ?_
  refine v_iconst F (pc := 2) dX4_moveToPacked_2 ?_
  refine v_istore_n F (pc := 3) (lo' := [some (.ref (P 0)), some (.int (iI (0))), some (.int (iI (0))), none]) dX4_moveToPacked_3 (Nat.le_of_ble_eq_true rfl) rfl ?_
  have LP4 : ∀ (N_ : Nat) (i : Nat), ((i : Int) ≤ τ 53 0) → (τ 53 0).toNat - i < N_ → VE pX l eX ({ frames := 4, cells := 0, slots := 0, locals := 84 }) sX mX ([.ref (P 0)] : List Value).toArray bX tX cX 4 g AX (cheap g P K r cp b b' (cMv r τ i)) 0 0 4 [some (.ref (P 0)), some (.int (iI (cMc r τ i))), some (.int (iI ((i : Nat)))), none] [] (fun v h1 => ∃ n : Nat, (n : Int) = τ 53 0 ∧ v = some (.int (iI (cMc r τ n))) ∧ h1 = cheap g P K r cp b b' (cMv r τ n)) (noX) 0 0 := by
    intro N_
    induction N_ with
    | zero => intro i _ hm_; exact absurd hm_ (Nat.not_lt_zero _)
    | succ N_ ih =>
      intro i hi1 hm_
      have hVi : CV K r cp (cMv r τ i) := hV.mv i hi1
      have e53 : (cMv r τ i) 53 0 = τ 53 0 := by rw [cMv_fix (by decide) i]
      refine v_iload_n F (pc := 4) dX4_moveToPacked_4 rfl ?_
      refine v_aload_n F (pc := 5) dX4_moveToPacked_5 rfl ?_
      refine v_getf F (pc := 6) fd_X4_23_7 (v := .ref (P 3)) dX4_moveToPacked_6 (ch_0 hk) rfl ?_
      refine v_callVp F (pc := 9) (As := []) (rest := [.int (iI ((i : Nat)))]) ci_X4_53 ct_Jx4a65c_size_8abf5 cs_Jx4a65c_size_8abf5 (k_Jx4a65c_size_8abf5 l g (n := (cMv r τ i) 53 0) (ch_3 hk)) dX4_moveToPacked_9 (k0 := 2) rfl rfl (ch_3 hk) rfl rfl (Nat.le_of_ble_eq_true rfl) (Nat.le_of_ble_eq_true rfl) (Nat.le_of_ble_eq_true rfl) (Nat.le_of_ble_eq_true rfl) (Nat.le_of_ble_eq_true rfl) ?_ (fun _ _ z => z.elim)
      refine v_icmp_ge F (pc := 12) (a := (i : Nat)) (b := (cMv r τ i) 53 0) 55 dX4_moveToPacked_12 (by decide) (by omega) (by omega) (fun c_1 => ?_) (fun c_1 => ?_)
      · refine v_iload_n F (pc := 55) dX4_moveToPacked_55 rfl ?_
        refine v_iret F (pc := 56) (z := (iI (cMc r τ i))) dX4_moveToPacked_56 rfl rfl (Nat.le_of_ble_eq_true rfl) (Nat.le_of_ble_eq_true rfl) ?_
        exact ⟨i, by omega, rfl, rfl⟩
      · refine v_aload_n F (pc := 15) dX4_moveToPacked_15 rfl ?_
        refine v_getf F (pc := 16) fd_X4_23_7 (v := .ref (P 3)) dX4_moveToPacked_16 (ch_0 hk) rfl ?_
        refine v_iload_n F (pc := 19) dX4_moveToPacked_19 rfl ?_
        refine v_callVp F (pc := 20) (As := [.int (iI ((i : Nat)))]) (rest := []) ci_X4_101 ct_Jx4a65c_get_915e3 cs_Jx4a65c_get_915e3 (kl_get0 l g (τ := (cMv r τ i)) (r := r) (cp := cp) hk hVi.2.2.1 (k := (i : Nat)) (by omega) (show ((i : Nat) : Int) < (cMv r τ i) 53 0 by omega)) dX4_moveToPacked_20 (k0 := 2) rfl rfl (ch_3 hk) rfl rfl (Nat.le_of_ble_eq_true rfl) (Nat.le_of_ble_eq_true rfl) (Nat.le_of_ble_eq_true rfl) (Nat.le_of_ble_eq_true rfl) (Nat.le_of_ble_eq_true rfl) ?_ (fun _ _ z => z.elim)
        have kq_2 : K (ad r 0 (i : Nat)) = 1 := (hVi.2.2.1.2.2.2.2 (i : Nat) (by omega) (show ((i : Nat) : Int) < (cMv r τ i) 53 0 by omega)).2
        refine v_castS F (pc := 23) (ci := 4) rfl tk_X4_105 dX4_moveToPacked_23 (ch_m hk kq_2) ?_
        refine v_astore_n F (pc := 26) (lo' := [some (.ref (P 0)), some (.int (iI (cMc r τ i))), some (.int (iI ((i : Nat)))), some (.ref (ad r 0 (i : Nat)))]) dX4_moveToPacked_26 (Nat.le_of_ble_eq_true rfl) rfl ?_
        refine v_aload_n F (pc := 27) dX4_moveToPacked_27 rfl ?_
        have hmvb := hVi.1 _ (hL0.2.2.2.2 i (by omega) (by omega)).2
        refine v_getf F (pc := 28) fd_X4_123_4 (v := .int (iI ((cMv r τ i) 35 (ad r 0 (i : Nat))))) dX4_moveToPacked_28 (ch_m hk kq_2) rfl ?_
        refine v_aload_n F (pc := 31) dX4_moveToPacked_31 rfl ?_
        refine v_getf F (pc := 32) fd_X4_168_4 (v := .int (iI ((cMv r τ i) 36 (ad r 0 (i : Nat))))) dX4_moveToPacked_32 (ch_m hk kq_2) rfl ?_
        refine v_icmp_eq F (pc := 35) (a := (cMv r τ i) 35 (ad r 0 (i : Nat))) (b := (cMv r τ i) 36 (ad r 0 (i : Nat))) 41 dX4_moveToPacked_35 (by decide) (by omega) (by omega) (fun c_3 => ?_) (fun c_3 => ?_)
        · have hq9 := c_3
          refine v_aload_n F (pc := 41) dX4_moveToPacked_41 rfl ?_
          refine v_aload_n F (pc := 42) dX4_moveToPacked_42 rfl ?_
          refine v_getf F (pc := 43) fd_X4_168_4 (v := .int (iI ((cMv r τ i) 36 (ad r 0 (i : Nat))))) dX4_moveToPacked_43 (ch_m hk kq_2) rfl ?_
          refine v_putf F (pc := 46) fp_X4_123_4 dX4_moveToPacked_46 (ch_m hk kq_2) rfl rfl (Nat.le_of_ble_eq_true rfl) (h' := cheap g P K r cp b b' (su (cMv r τ i) 35 (ad r 0 (i : Nat)) ((cMv r τ i) 36 (ad r 0 (i : Nat))))) (cu_m5 hk kq_2 ((cMv r τ i) 36 (ad r 0 (i : Nat)))) ?_
          refine v_iinc F (pc := 49) (lo' := [some (.ref (P 0)), some (.int (iI (cMc r τ i))), some (.int (iI ((i : Nat) + 1))), some (.ref (ad r 0 (i : Nat)))]) dX4_moveToPacked_49 rfl (Nat.le_of_ble_eq_true rfl) rfl ?_
          refine v_goto F (pc := 52) 4 dX4_moveToPacked_52 (by decide) ?_
          have e_ : cMc r τ (i + 1) = cMc r τ i := if_pos hq9
          have ih2 := ih (i + 1) (by omega) (by omega)
          rw [e_] at ih2
          exact V.fg (ih2) ⟨rfl, ⟨rfl, ⟨rfl, trivial⟩⟩⟩
        · have hq9 := c_3
          refine v_iinc F (pc := 38) (lo' := [some (.ref (P 0)), some (.int (iI (cMc r τ i + 1))), some (.int (iI ((i : Nat)))), some (.ref (ad r 0 (i : Nat)))]) dX4_moveToPacked_38 rfl (Nat.le_of_ble_eq_true rfl) rfl ?_
          refine v_aload_n F (pc := 41) dX4_moveToPacked_41 rfl ?_
          refine v_aload_n F (pc := 42) dX4_moveToPacked_42 rfl ?_
          refine v_getf F (pc := 43) fd_X4_168_4 (v := .int (iI ((cMv r τ i) 36 (ad r 0 (i : Nat))))) dX4_moveToPacked_43 (ch_m hk kq_2) rfl ?_
          refine v_putf F (pc := 46) fp_X4_123_4 dX4_moveToPacked_46 (ch_m hk kq_2) rfl rfl (Nat.le_of_ble_eq_true rfl) (h' := cheap g P K r cp b b' (su (cMv r τ i) 35 (ad r 0 (i : Nat)) ((cMv r τ i) 36 (ad r 0 (i : Nat))))) (cu_m5 hk kq_2 ((cMv r τ i) 36 (ad r 0 (i : Nat)))) ?_
          refine v_iinc F (pc := 49) (lo' := [some (.ref (P 0)), some (.int (iI (cMc r τ i + 1))), some (.int (iI ((i : Nat) + 1))), some (.ref (ad r 0 (i : Nat)))]) dX4_moveToPacked_49 rfl (Nat.le_of_ble_eq_true rfl) rfl ?_
          refine v_goto F (pc := 52) 4 dX4_moveToPacked_52 (by decide) ?_
          have e_ : cMc r τ (i + 1) = cMc r τ i + 1 := if_neg hq9
          have ih2 := ih (i + 1) (by omega) (by omega)
          rw [e_] at ih2
          exact V.fg (ih2) ⟨rfl, ⟨rfl, ⟨rfl, trivial⟩⟩⟩
  exact V.fg (LP4 _ 0 hn60.1 (Nat.lt_succ_self _)) ⟨rfl, ⟨rfl, ⟨rfl, trivial⟩⟩⟩
