theorem posN_p {τ : sT} {L : Int → Nat} {v p : Nat} (h : 0 < p) : posN τ L v p = if cPA τ v (L ((p : Int) - 1)) = true then posN τ L v (p - 1) else p := by
  obtain ⟨p', rfl⟩ : ∃ p', p = p' + 1 := ⟨p - 1, by omega⟩
  rw [show (((p' + 1 : Nat)) : Int) - 1 = (p' : Int) by omega]
  rfl
theorem ins_ok {q1 q2 : Int → Option Nat} {L : Int → Nat} {i : Int} {p : Int} {v : Nat} (hq : ∀ j, 0 ≤ j → j < i → q1 j = some (L j)) (h1 : ∀ j, 0 ≤ j → j < p → q2 j = q1 j) (h2 : q2 p = some v) (h3 : ∀ j, p ≤ j → j < i → q2 (j + 1) = q1 j) (hp : 0 ≤ p ∧ p ≤ i) : ∀ j, 0 ≤ j → j < i + 1 → q2 j = some (ins L p v j) := by
  intro j a b
  unfold ins
  by_cases c1 : j < p
  · rw [if_pos c1, h1 j a c1, hq j a (by omega)]
  · rw [if_neg c1]
    by_cases c2 : j = p
    · rw [if_pos c2, c2, h2]
    · rw [if_neg c2]
      have := h3 (j - 1) (by omega) (by omega)
      rw [Int.sub_add_cancel] at this
      rw [this, hq (j - 1) (by omega) (by omega)]
theorem Wn.le {τ : sT} {w : Nat} {B C : Int} (h : Wn τ w B) (hB : B ≤ C) : Wn τ w C :=
  ⟨h.1, fun z a b => by have := h.2.1 z a b; omega, fun z a b => by have := h.2.2.1 z a b; omega, fun z a b => by have := h.2.2.2.1 z a b; omega, fun z a b => by have := h.2.2.2.2 z a b; omega⟩
-- X4_listForPacking
set_option maxRecDepth 100000 in
set_option maxHeartbeats 8000000 in
theorem k_X4_listForPacking (l : Launch) (g : gT) {P K : Nat → Nat} {r : Nat → Int → Option Nat} {cp : Nat → Nat} {b b' : Nat} {τ : sT} (hk : cok P K cp) (hb : b = 5 ∨ b = 12) (hb2 : b' = 5 ∨ b' = 12) (hV : CV K r cp τ) (hW : Wb τ b) (hPC : PC r τ) : CM l g yX4_listForPacking cX4_listForPacking 4 none ({ frames := 7, cells := 60, slots := 9000, locals := 171 }) [.ref (P 0)] (cheap g P K r cp b b' τ) (fun v h1 => v = none ∧ ∃ (ed cap : Nat) (q1 : Int → Option Nat) (mc : Int), h1 = cheap g (kup P 24 ed) K (rup r 1 q1) (kup cp 1 cap) b b' (su (su τ 51 0 mc) 54 0 (τ 53 0)) ∧ cok (kup P 24 ed) K (kup cp 1 cap) ∧ τ 53 0 ≤ cap ∧ cap ≤ 150 ∧ ∀ j : Int, 0 ≤ j → j < τ 53 0 → q1 j = some (pkL r τ (τ 53 0).toNat j)) (noX) := by
  refine CM.of (lo := [some (.ref (P 0)), none, none, none]) (by decide) (Nat.le_of_ble_eq_true rfl) (by simp [Value.category]) rfl ?_
  intro pX eX sX mX bX tX cX AX F htab hmn
  have F : Fx pX l sX mX ([.ref (P 0)] : List Value).toArray tX cX cX4_listForPacking 4 none RX4 g AX := F
  have hM := hV.1
  have hR := hV.2.1
  have hL0 := hV.2.2.1
  have hL1 := hV.2.2.2.1
  have hL2 := hV.2.2.2.2.1
  have hS20 := hV.2.2.2.2.2.1
  have hS21 := hV.2.2.2.2.2.2.1
  have hS22 := hV.2.2.2.2.2.2.2.1
  have hS2 := hV.2.2.2.2.2.2.2.2.1
  have hn8 : 0 ≤ τ 55 0 ∧ τ 55 0 ≤ 8 := ⟨hL2.1, hL2.2.2.2.1⟩
  have hn60 : 0 ≤ τ 53 0 ∧ τ 53 0 ≤ 60 := ⟨hL0.1, hL0.2.2.2.1⟩
  have hWb1 := hW.1
  have hWb2 := hW.2.1
  have hWb3 := hW.2.2.1
  have hWb5 := hW.2.2.2.1
  have hWb6 := hW.2.2.2.2
  have hb23 : b < 23 := by omega
  have hb23' : b' < 23 := by omega
  refine v_aload_n F (pc := 0) dX4_listForPacking_0 rfl ?_
  refine v_getf F (pc := 1) fd_X4_27_7 (v := .ref (P 4)) dX4_listForPacking_1 (ch_0 hk) rfl ?_
  refine v_callV F (pc := 4) (As := []) (rest := []) ci_X4_260 ct_Jx4a65c_clear_da8c8 cs_Jx4a65c_clear_da8c8 (kl_clr1 l g hk hb23 hb23' hL1) dX4_listForPacking_4 (k0 := 2) rfl rfl (ch_4 hk) rfl rfl (Nat.le_of_ble_eq_true rfl) (Nat.le_of_ble_eq_true rfl) (Nat.le_of_ble_eq_true rfl) (Nat.le_of_ble_eq_true rfl) (Nat.le_of_ble_eq_true rfl) (fun v_ h_ hp_ => ?_) (fun _ _ z => z.elim)
  obtain ⟨rfl, ed_a, cap_a, r1_a, rfl, hk_a, ha1, ha2, ha3⟩ := hp_
  refine v_iconst F (pc := 7) dX4_listForPacking_7 ?_
  refine v_istore_n F (pc := 8) (lo' := [some (.ref (P 0)), some (.int (iI (0))), none, none]) dX4_listForPacking_8 (Nat.le_of_ble_eq_true rfl) rfl ?_
  have LP9 : ∀ (N_ : Nat) (i : Nat) (ed : Nat) (cap : Nat) (q1 : Int → Option Nat) (mc : Int), ((i : Int) ≤ τ 53 0) → (cok (kup P 24 ed) K (kup cp 1 cap)) → ((i : Int) ≤ cap ∧ cap ≤ 150) → (∀ j : Int, 0 ≤ j → j < i → q1 j = some (pkL r τ i j)) → (τ 53 0).toNat - i < N_ → VE pX l eX ({ frames := 7, cells := 60, slots := 9000, locals := 171 }) sX mX ([.ref (P 0)] : List Value).toArray bX tX cX 4 g AX (cheap g (kup P 24 ed) K (rup r 1 q1) (kup cp 1 cap) b b' (su (su τ 51 0 mc) 54 0 (i : Nat))) i (150 * i) 9 [some (.ref (P 0)), some (.int (iI ((i : Nat)))), none, none] [] (fun v h1 => v = none ∧ ∃ (ed cap : Nat) (q1 : Int → Option Nat) (mc : Int), h1 = cheap g (kup P 24 ed) K (rup r 1 q1) (kup cp 1 cap) b b' (su (su τ 51 0 mc) 54 0 (τ 53 0)) ∧ cok (kup P 24 ed) K (kup cp 1 cap) ∧ τ 53 0 ≤ cap ∧ cap ≤ 150 ∧ ∀ j : Int, 0 ≤ j → j < τ 53 0 → q1 j = some (pkL r τ (τ 53 0).toNat j)) (noX) 60 9000 := by
    intro N_
    induction N_ with
    | zero => intro i ed cap q1 mc _ _ _ _ hm_; exact absurd hm_ (Nat.not_lt_zero _)
    | succ N_ ih =>
      intro i ed cap q1 mc hi1 hkL hcap hq1 hm_
      have hL1i : Ls1 K (rup r 1 q1) (kup cp 1 cap) (su (su τ 51 0 mc) 54 0 (i : Nat)) := by
        refine ⟨?_, ?_, ?_, ?_, fun k h0 h1 => ?_⟩
        · show (0 : Int) ≤ (i : Int); omega
        · show (i : Int) ≤ ((kup cp 1 cap 1 : Nat) : Int); rw [kup_s]; exact hcap.1
        · rw [kup_s]; exact hcap.2
        · show (i : Int) ≤ 60; omega
        · have h1' : k < (i : Int) := h1
          have e0 : ad (rup r 1 q1) 1 k = pkL r τ i k := by show (q1 k).getD 0 = _; rw [hq1 k h0 h1']; rfl
          rw [e0]
          exact ⟨hq1 k h0 h1', pkL_K hL0 i hi1 k h0 h1'⟩
      refine v_iload_n F (pc := 9) dX4_listForPacking_9 rfl ?_
      refine v_aload_n F (pc := 10) dX4_listForPacking_10 rfl ?_
      refine v_getf F (pc := 11) fd_X4_23_7 (v := .ref (P 3)) dX4_listForPacking_11 (ch_0 hkL) rfl ?_
      refine v_callVp F (pc := 14) (As := []) (rest := [.int (iI ((i : Nat)))]) ci_X4_53 ct_Jx4a65c_size_8abf5 cs_Jx4a65c_size_8abf5 (k_Jx4a65c_size_8abf5 l g (n := τ 53 0) (ch_3 hkL)) dX4_listForPacking_14 (k0 := 2) rfl rfl (ch_3 hkL) rfl rfl (Nat.le_of_ble_eq_true rfl) (Nat.le_of_ble_eq_true rfl) (Nat.le_of_ble_eq_true rfl) (show i + 0 ≤ 60 by omega) (show 150 * i + 0 ≤ 9000 by omega) ?_ (fun _ _ z => z.elim)
      refine v_icmp_ge F (pc := 17) (a := (i : Nat)) (b := τ 53 0) 85 dX4_listForPacking_17 (by decide) (by omega) (by omega) (fun c_1 => ?_) (fun c_1 => ?_)
      · refine v_vret F (pc := 85) dX4_listForPacking_85 rfl (show i ≤ 60 by omega) (show 150 * i ≤ 9000 by omega) ?_
        have ei : (i : Int) = τ 53 0 := by omega
        have ei2 : (τ 53 0).toNat = i := by omega
        exact ⟨rfl, ed, cap, q1, mc, by rw [← ei], hkL, by omega, hcap.2, fun j a c => by rw [ei2]; exact hq1 j a (by omega)⟩
      · refine v_aload_n F (pc := 20) dX4_listForPacking_20 rfl ?_
        refine v_getf F (pc := 21) fd_X4_23_7 (v := .ref (P 3)) dX4_listForPacking_21 (ch_0 hkL) rfl ?_
        refine v_iload_n F (pc := 24) dX4_listForPacking_24 rfl ?_
        refine v_callVp F (pc := 25) (As := [.int (iI ((i : Nat)))]) (rest := []) ci_X4_101 ct_Jx4a65c_get_915e3 cs_Jx4a65c_get_915e3 (kl_get0 l g (τ := su (su τ 51 0 mc) 54 0 (i : Nat)) (r := (rup r 1 q1)) (cp := (kup cp 1 cap)) hkL hL0 (k := (i : Nat)) (by omega) (show ((i : Nat) : Int) < τ 53 0 by omega)) dX4_listForPacking_25 (k0 := 2) rfl rfl (ch_3 hkL) rfl rfl (Nat.le_of_ble_eq_true rfl) (Nat.le_of_ble_eq_true rfl) (Nat.le_of_ble_eq_true rfl) (show i + 0 ≤ 60 by omega) (show 150 * i + 0 ≤ 9000 by omega) ?_ (fun _ _ z => z.elim)
        have kq_2 : K (ad r 0 (i : Nat)) = 1 := (hL0.2.2.2.2 (i : Nat) (by omega) (show ((i : Nat) : Int) < τ 53 0 by omega)).2
        have kq_2b := hM _ kq_2
        refine v_castS F (pc := 28) (ci := 4) rfl tk_X4_105 dX4_listForPacking_28 (ch_m hkL kq_2) ?_
        refine v_astore_n F (pc := 31) (lo' := [some (.ref (P 0)), some (.int (iI ((i : Nat)))), some (.ref (ad r 0 (i : Nat))), none]) dX4_listForPacking_31 (Nat.le_of_ble_eq_true rfl) rfl ?_
        refine v_aload_n F (pc := 32) dX4_listForPacking_32 rfl ?_
        refine v_getf F (pc := 33) fd_X4_27_7 (v := .ref (P 4)) dX4_listForPacking_33 (ch_0 hkL) rfl ?_
        refine v_callVp F (pc := 36) (As := []) (rest := []) ci_X4_53 ct_Jx4a65c_size_8abf5 cs_Jx4a65c_size_8abf5 (k_Jx4a65c_size_8abf5 l g (n := (i : Nat)) (ch_4 hkL)) dX4_listForPacking_36 (k0 := 2) rfl rfl (ch_4 hkL) rfl rfl (Nat.le_of_ble_eq_true rfl) (Nat.le_of_ble_eq_true rfl) (Nat.le_of_ble_eq_true rfl) (show i + 0 ≤ 60 by omega) (show 150 * i + 0 ≤ 9000 by omega) ?_ (fun _ _ z => z.elim)
        refine v_istore_n F (pc := 39) (lo' := [some (.ref (P 0)), some (.int (iI ((i : Nat)))), some (.ref (ad r 0 (i : Nat))), some (.int (iI ((i : Nat))))]) dX4_listForPacking_39 (Nat.le_of_ble_eq_true rfl) rfl ?_
        have LP40 : ∀ (N_ : Nat) (p : Nat), (p ≤ i) → (posN τ (pkL r τ i) (ad r 0 (i : Nat)) p = posN τ (pkL r τ i) (ad r 0 (i : Nat)) i) → p < N_ → VE pX l eX ({ frames := 7, cells := 60, slots := 9000, locals := 171 }) sX mX ([.ref (P 0)] : List Value).toArray bX tX cX 4 g AX (cheap g (kup P 24 ed) K (rup r 1 q1) (kup cp 1 cap) b b' (su (su τ 51 0 mc) 54 0 (i : Nat))) i (150 * i) 40 [some (.ref (P 0)), some (.int (iI ((i : Nat)))), some (.ref (ad r 0 (i : Nat))), some (.int (iI ((p : Nat))))] [] (fun v h1 => v = none ∧ ∃ (ed cap : Nat) (q1 : Int → Option Nat) (mc : Int), h1 = cheap g (kup P 24 ed) K (rup r 1 q1) (kup cp 1 cap) b b' (su (su τ 51 0 mc) 54 0 (τ 53 0)) ∧ cok (kup P 24 ed) K (kup cp 1 cap) ∧ τ 53 0 ≤ cap ∧ cap ≤ 150 ∧ ∀ j : Int, 0 ≤ j → j < τ 53 0 → q1 j = some (pkL r τ (τ 53 0).toNat j)) (noX) 60 9000 := by
          intro N_
          induction N_ with
          | zero => intro p _ _ hm_; exact absurd hm_ (Nat.not_lt_zero _)
          | succ N_ ihp =>
            intro p hp1 hpos hm_
            refine v_iload_n F (pc := 40) dX4_listForPacking_40 rfl ?_
            refine v_if_le F (pc := 41) (a := (p : Nat)) 70 dX4_listForPacking_41 (by decide) (by omega) (fun c_3 => ?_) (fun c_3 => ?_)
            · have hpf : posN τ (pkL r τ i) (ad r 0 (i : Nat)) i = p := by rw [← hpos, show p = 0 by omega]; rfl
              refine v_aload_n F (pc := 70) dX4_listForPacking_70 rfl ?_
              refine v_getf F (pc := 71) fd_X4_27_7 (v := .ref (P 4)) dX4_listForPacking_71 (ch_0 hkL) rfl ?_
              refine v_iload_n F (pc := 74) dX4_listForPacking_74 rfl ?_
              refine v_aload_n F (pc := 75) dX4_listForPacking_75 rfl ?_
              refine v_callV F (pc := 76) (As := [.int (iI ((p : Nat))), .ref (ad r 0 (i : Nat))]) (rest := []) ci_X4_265 ct_Jx4a65c_add_7a177 cs_Jx4a65c_add_7a177 (kl_ins1 l g (τ := su (su τ 51 0 mc) 54 0 (i : Nat)) (r := (rup r 1 q1)) (cp := (kup cp 1 cap)) hkL hb23 hb23' hL1i kq_2 (i := (p : Nat)) ⟨by omega, show ((p : Nat) : Int) ≤ (i : Nat) by omega⟩) dX4_listForPacking_76 (k0 := 2) rfl rfl (ch_4 hkL) rfl rfl (Nat.le_of_ble_eq_true rfl) (Nat.le_of_ble_eq_true rfl) (Nat.le_of_ble_eq_true rfl) (show i + 1 ≤ 60 by omega) (show 150 * i + 150 ≤ 9000 by omega) (fun v_ h_ hp_ => ?_) (fun _ _ z => z.elim)
              obtain ⟨rfl, ed_b, cap_b, r1_b, rfl, hk_b, hb1, hb2_, hb3⟩ := hp_
              refine v_iinc F (pc := 79) (lo' := [some (.ref (P 0)), some (.int (iI ((i : Nat) + 1))), some (.ref (ad r 0 (i : Nat))), some (.int (iI ((p : Nat))))]) dX4_listForPacking_79 rfl (Nat.le_of_ble_eq_true rfl) rfl ?_
              refine v_goto F (pc := 82) 9 dX4_listForPacking_82 (by decide) ?_
              have ehp : cheap g (kup P 24 ed_b) K (rup r 1 r1_b) (kup cp 1 cap_b) b b' (su (su τ 51 0 (mc + 1)) 54 0 ((i + 1 : Nat) : Int)) = cheap g (kup (kup P 24 ed) 24 ed_b) K (rup (rup r 1 q1) 1 r1_b) (kup (kup cp 1 cap) 1 cap_b) b b' (su (su (su (su τ 51 0 mc) 54 0 (i : Nat)) 51 0 (mc + 1)) 54 0 ((i : Nat) + 1)) := by
                rw [kup_kup, kup_kup, rup_rup, su_cm (f := 54) (f' := 51) (by decide), su_su, su_su]
                rfl
              rw [kup_kup] at hk_b
              rw [kup_kup] at hk_b
              have hnew : ∀ j : Int, 0 ≤ j → j < ((i + 1 : Nat) : Int) → r1_b j = some (pkL r τ (i + 1) j) := by
                have e0 := ins_ok (q2 := r1_b) hq1 hb3.1 hb3.2.1 hb3.2.2 (by omega)
                intro j a c
                rw [e0 j a (by omega)]
                show some _ = some (ins _ ((posN τ (pkL r τ i) (ad r 0 (i : Nat)) i : Nat) : Int) _ j)
                rw [hpf]
              have ih2 := ih (i + 1) ed_b cap_b r1_b (mc + 1) (by omega) hk_b (by have hb1' : ((i : Nat) : Int) + 1 ≤ (cap_b : Int) := hb1; omega) hnew (by omega)
              rw [ehp] at ih2
              refine v_wid (k := i + 1) (n := 150 * (i + 1)) (Nat.le_refl (i + 1)) (show 150 * i + 150 ≤ 150 * (i + 1) by omega) ?_
              exact V.fg (ih2) ⟨rfl, ⟨rfl, trivial⟩⟩
            · have he9 : ad (rup r 1 q1) 1 ((p : Nat) - 1) = pkL r τ i ((p : Int) - 1) := by show (q1 _).getD 0 = _; rw [hq1 _ (by omega) (by omega)]; rfl
              refine v_aload_n F (pc := 44) dX4_listForPacking_44 rfl ?_
              refine v_aload_n F (pc := 45) dX4_listForPacking_45 rfl ?_
              refine v_getf F (pc := 46) fd_X4_27_7 (v := .ref (P 4)) dX4_listForPacking_46 (ch_0 hkL) rfl ?_
              refine v_iload_n F (pc := 49) dX4_listForPacking_49 rfl ?_
              refine v_iconst F (pc := 50) dX4_listForPacking_50 ?_
              refine v_isub F (pc := 51) (a := (p : Nat)) (b := 1) dX4_listForPacking_51 ?_
              refine v_callVp F (pc := 52) (As := [.int (iI ((p : Nat) - 1))]) (rest := [.ref (ad r 0 (i : Nat))]) ci_X4_101 ct_Jx4a65c_get_915e3 cs_Jx4a65c_get_915e3 (kl_get1 l g (τ := su (su τ 51 0 mc) 54 0 (i : Nat)) (r := (rup r 1 q1)) (cp := (kup cp 1 cap)) hkL hL1i (k := (p : Nat) - 1) (by omega) (show ((p : Nat) - 1 : Int) < (i : Nat) by omega)) dX4_listForPacking_52 (k0 := 2) rfl rfl (ch_4 hkL) rfl rfl (Nat.le_of_ble_eq_true rfl) (Nat.le_of_ble_eq_true rfl) (Nat.le_of_ble_eq_true rfl) (show i + 0 ≤ 60 by omega) (show 150 * i + 0 ≤ 9000 by omega) ?_ (fun _ _ z => z.elim)
              have kq_4 : K (ad (rup r 1 q1) 1 ((p : Nat) - 1)) = 1 := (hL1i.2.2.2.2 ((p : Nat) - 1) (by omega) (show ((p : Nat) - 1 : Int) < (i : Nat) by omega)).2
              have kq_4b := hM _ kq_4
              refine v_castS F (pc := 55) (ci := 4) rfl tk_X4_105 dX4_listForPacking_55 (ch_m hkL kq_4) ?_
              refine v_callVp F (pc := 58) (As := [.ref (ad (rup r 1 q1) 1 ((p : Nat) - 1))]) (rest := []) ci_X4_262 ct_X1_packsAhead cs_X1_packsAhead (k_X1_packsAhead l g hkL (τ := su (su τ 51 0 mc) 54 0 (i : Nat)) (r := (rup r 1 q1)) (cp := (kup cp 1 cap)) (b := b) (b' := b') (m := ad r 0 (i : Nat)) kq_2 kq_2b (o := ad (rup r 1 q1) 1 ((p : Nat) - 1)) kq_4 kq_4b) dX4_listForPacking_58 (k0 := 4) rfl rfl (ch_m hkL kq_2) rfl rfl (Nat.le_of_ble_eq_true rfl) (Nat.le_of_ble_eq_true rfl) (Nat.le_of_ble_eq_true rfl) (show i + 0 ≤ 60 by omega) (show 150 * i + 0 ≤ 9000 by omega) ?_ (fun _ _ z => z.elim)
              refine v_if_eqB F (pc := 61) (b := (cPA (su (su τ 51 0 mc) 54 0 (i : Nat)) (ad r 0 (i : Nat)) (ad (rup r 1 q1) 1 ((p : Nat) - 1)))) 70 dX4_listForPacking_61 (by decide) (fun c_5 => ?_) (fun c_5 => ?_)
              · have hpf : posN τ (pkL r τ i) (ad r 0 (i : Nat)) i = p := by rw [← hpos, posN_p (by omega), ← he9, if_neg (fun z_ => by have q_ := c_5.symm.trans z_; cases q_)]
                refine v_aload_n F (pc := 70) dX4_listForPacking_70 rfl ?_
                refine v_getf F (pc := 71) fd_X4_27_7 (v := .ref (P 4)) dX4_listForPacking_71 (ch_0 hkL) rfl ?_
                refine v_iload_n F (pc := 74) dX4_listForPacking_74 rfl ?_
                refine v_aload_n F (pc := 75) dX4_listForPacking_75 rfl ?_
                refine v_callV F (pc := 76) (As := [.int (iI ((p : Nat))), .ref (ad r 0 (i : Nat))]) (rest := []) ci_X4_265 ct_Jx4a65c_add_7a177 cs_Jx4a65c_add_7a177 (kl_ins1 l g (τ := su (su τ 51 0 mc) 54 0 (i : Nat)) (r := (rup r 1 q1)) (cp := (kup cp 1 cap)) hkL hb23 hb23' hL1i kq_2 (i := (p : Nat)) ⟨by omega, show ((p : Nat) : Int) ≤ (i : Nat) by omega⟩) dX4_listForPacking_76 (k0 := 2) rfl rfl (ch_4 hkL) rfl rfl (Nat.le_of_ble_eq_true rfl) (Nat.le_of_ble_eq_true rfl) (Nat.le_of_ble_eq_true rfl) (show i + 1 ≤ 60 by omega) (show 150 * i + 150 ≤ 9000 by omega) (fun v_ h_ hp_ => ?_) (fun _ _ z => z.elim)
                obtain ⟨rfl, ed_b, cap_b, r1_b, rfl, hk_b, hb1, hb2_, hb3⟩ := hp_
                refine v_iinc F (pc := 79) (lo' := [some (.ref (P 0)), some (.int (iI ((i : Nat) + 1))), some (.ref (ad r 0 (i : Nat))), some (.int (iI ((p : Nat))))]) dX4_listForPacking_79 rfl (Nat.le_of_ble_eq_true rfl) rfl ?_
                refine v_goto F (pc := 82) 9 dX4_listForPacking_82 (by decide) ?_
                have ehp : cheap g (kup P 24 ed_b) K (rup r 1 r1_b) (kup cp 1 cap_b) b b' (su (su τ 51 0 (mc + 1)) 54 0 ((i + 1 : Nat) : Int)) = cheap g (kup (kup P 24 ed) 24 ed_b) K (rup (rup r 1 q1) 1 r1_b) (kup (kup cp 1 cap) 1 cap_b) b b' (su (su (su (su τ 51 0 mc) 54 0 (i : Nat)) 51 0 (mc + 1)) 54 0 ((i : Nat) + 1)) := by
                  rw [kup_kup, kup_kup, rup_rup, su_cm (f := 54) (f' := 51) (by decide), su_su, su_su]
                  rfl
                rw [kup_kup] at hk_b
                rw [kup_kup] at hk_b
                have hnew : ∀ j : Int, 0 ≤ j → j < ((i + 1 : Nat) : Int) → r1_b j = some (pkL r τ (i + 1) j) := by
                  have e0 := ins_ok (q2 := r1_b) hq1 hb3.1 hb3.2.1 hb3.2.2 (by omega)
                  intro j a c
                  rw [e0 j a (by omega)]
                  show some _ = some (ins _ ((posN τ (pkL r τ i) (ad r 0 (i : Nat)) i : Nat) : Int) _ j)
                  rw [hpf]
                have ih2 := ih (i + 1) ed_b cap_b r1_b (mc + 1) (by omega) hk_b (by have hb1' : ((i : Nat) : Int) + 1 ≤ (cap_b : Int) := hb1; omega) hnew (by omega)
                rw [ehp] at ih2
                refine v_wid (k := i + 1) (n := 150 * (i + 1)) (Nat.le_refl (i + 1)) (show 150 * i + 150 ≤ 150 * (i + 1) by omega) ?_
                exact V.fg (ih2) ⟨rfl, ⟨rfl, trivial⟩⟩
              · have hpos2 : posN τ (pkL r τ i) (ad r 0 (i : Nat)) (p - 1) = posN τ (pkL r τ i) (ad r 0 (i : Nat)) i := by rw [← hpos, posN_p (p := p) (by omega), ← he9]; exact (if_pos c_5).symm
                refine v_iinc F (pc := 64) (lo' := [some (.ref (P 0)), some (.int (iI ((i : Nat)))), some (.ref (ad r 0 (i : Nat))), some (.int (iI ((p : Nat) + (-1))))]) dX4_listForPacking_64 rfl (Nat.le_of_ble_eq_true rfl) rfl ?_
                refine v_goto F (pc := 67) 40 dX4_listForPacking_67 (by decide) ?_
                exact V.to (ihp (p - 1) (by omega) hpos2 (by omega)) rfl (by rw [show (((p - 1 : Nat)) : Int) = (p : Int) + (-1) by omega]) rfl
        exact LP40 _ i (Nat.le_refl _) rfl (Nat.lt_succ_self _)
  have e0_ := LP9 _ 0 ed_a cap_a r1_a (τ 51 0 + 1) hn60.1 hk_a ⟨by omega, ha2⟩ (fun j a c => absurd c (by omega)) (Nat.lt_succ_self _)
  exact V.fg (e0_) ⟨rfl, ⟨rfl, trivial⟩⟩
