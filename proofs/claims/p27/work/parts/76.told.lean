/-! ===== the law: isTold ===== -/
-- L_isTold
set_option maxRecDepth 100000 in
set_option maxHeartbeats 8000000 in
theorem KL_isTold (l : Launch) (g : gT) {x : Nat} {h : fH} {σ : sT} {kf : fH} (hX : SL g x h σ kf) (n p w c : Int) (hkd : cKD n p w c) (hgv : σ 18 0 < 1000000) : CM l g yL_isTold cL_isTold 11 (some .boolean) ({ frames := 14, cells := 50, slots := 400, locals := 249 }) [.ref x, .int (iI (n)), .int (iI (p)), .int (iI (w)), .int (iI (c))] (h) (fun v h1 => v = some (.int (iI 1)) ∧ ∃ σ2, SL g x h1 σ2 kf ∧ Ag8 σ σ2 ∧ σ2 18 0 = if pl_c σ n p w c = 0 then σ 18 0 + 1 else σ 18 0) (noX) := by
  refine CM.of (lo := [some (.ref x), some (.int (iI (n))), some (.int (iI (p))), some (.int (iI (w))), some (.int (iI (c))), none, none, none, none, none, none]) (by decide) (Nat.le_of_ble_eq_true rfl) (by simp [Value.category]) rfl ?_
  intro pX eX sX mX bX tX cX AX F htab hmn
  have F : Fx pX l sX mX ([.ref x, .int (iI (n)), .int (iI (p)), .int (iI (w)), .int (iI (c))] : List Value).toArray tX cX cL_isTold 11 (some .boolean) RL g AX := F
  have hIV := hX.iv
  have hm := mb_nm hIV.1
  have hn := mb_nr hIV.1
  have h18 : (0 : Int) ≤ σ 18 0 := (hIV.1 18 0 (by decide) (by decide)).1
  obtain ⟨fsi, oi⟩ := hX.obj
  have hrf := rf_rng (n := n) (p := p) (w := w) (c := c) hIV
  have har := all_rng hIV hkd
  have hkd2 : cKD n p w 2 := by omega
  have har2 := all_rng hIV hkd2
  have htwo := room_two hIV hkd
  have hfit := (room_fits hIV hkd).trans (rf_0 hIV).symm
  have hpr := prA_rf (n := n) (p := p) (w := w) (c := c) hIV
  have hpi := pl_iff hIV.1 hkd
  refine v_aload_n F (pc := 0) dL_isTold_0 rfl ?_
  refine v_iload_n F (pc := 1) dL_isTold_1 rfl ?_
  refine v_iload_n F (pc := 2) dL_isTold_2 rfl ?_
  refine v_iload_n F (pc := 3) dL_isTold_3 rfl ?_
  refine v_iload F (pc := 4) dL_isTold_4 rfl ?_
  refine v_callV F (pc := 6) (As := [.int (iI (n)), .int (iI (p)), .int (iI (w)), .int (iI (c))]) (rest := []) ci_L_67 ct_X4_racksFor cs_X4_racksFor (N_racksFor l g hX n p w c hkd) dL_isTold_6 (k0 := 7) rfl rfl oi rfl rfl (Nat.le_of_ble_eq_true rfl) (Nat.le_of_ble_eq_true rfl) (Nat.le_of_ble_eq_true rfl) (Nat.le_of_ble_eq_true rfl) (Nat.le_of_ble_eq_true rfl) (fun v_ h1 hp_ => ?_) (fun _ _ z => z.elim)
  obtain ⟨rfl, X1⟩ := hp_
  obtain ⟨fs1, o1⟩ := X1.obj
  refine v_istore F (pc := 9) (lo' := [some (.ref x), some (.int (iI (n))), some (.int (iI (p))), some (.int (iI (w))), some (.int (iI (c))), some (.int (iI (RF σ n p w c))), none, none, none, none, none]) dL_isTold_9 (Nat.le_of_ble_eq_true rfl) rfl ?_
  refine v_aload_n F (pc := 11) dL_isTold_11 rfl ?_
  refine v_iload_n F (pc := 12) dL_isTold_12 rfl ?_
  refine v_iload_n F (pc := 13) dL_isTold_13 rfl ?_
  refine v_iload_n F (pc := 14) dL_isTold_14 rfl ?_
  refine v_iload F (pc := 15) dL_isTold_15 rfl ?_
  refine v_callV F (pc := 17) (As := [.int (iI (n)), .int (iI (p)), .int (iI (w)), .int (iI (c))]) (rest := []) ci_L_70 ct_X4_roomFor cs_X4_roomFor (N_roomFor l g X1 n p w c hkd) dL_isTold_17 (k0 := 7) rfl rfl o1 rfl rfl (Nat.le_of_ble_eq_true rfl) (Nat.le_of_ble_eq_true rfl) (Nat.le_of_ble_eq_true rfl) (Nat.le_of_ble_eq_true rfl) (Nat.le_of_ble_eq_true rfl) (fun v_ h2 hp_ => ?_) (fun _ _ z => z.elim)
  obtain ⟨rfl, X2⟩ := hp_
  obtain ⟨fs2, o2⟩ := X2.obj
  refine v_istore F (pc := 20) (lo' := [some (.ref x), some (.int (iI (n))), some (.int (iI (p))), some (.int (iI (w))), some (.int (iI (c))), some (.int (iI (RF σ n p w c))), some (.int (iI (rc_all σ n p w c))), none, none, none, none]) dL_isTold_20 (Nat.le_of_ble_eq_true rfl) rfl ?_
  refine v_aload_n F (pc := 22) dL_isTold_22 rfl ?_
  refine v_callV F (pc := 23) (As := []) (rest := []) ci_L_41 ct_X4_machines cs_X4_machines (N_machines l g X2) dL_isTold_23 (k0 := 7) rfl rfl o2 rfl rfl (Nat.le_of_ble_eq_true rfl) (Nat.le_of_ble_eq_true rfl) (Nat.le_of_ble_eq_true rfl) (Nat.le_of_ble_eq_true rfl) (Nat.le_of_ble_eq_true rfl) (fun v_ h3 hp_ => ?_) (fun _ _ z => z.elim)
  obtain ⟨rfl, X3⟩ := hp_
  obtain ⟨fs3, o3⟩ := X3.obj
  refine v_istore F (pc := 26) (lo' := [some (.ref x), some (.int (iI (n))), some (.int (iI (p))), some (.int (iI (w))), some (.int (iI (c))), some (.int (iI (RF σ n p w c))), some (.int (iI (rc_all σ n p w c))), some (.int (iI (σ 17 0))), none, none, none]) dL_isTold_26 (Nat.le_of_ble_eq_true rfl) rfl ?_
  refine v_iload F (pc := 28) dL_isTold_28 rfl ?_
  refine v_aload_n F (pc := 30) dL_isTold_30 rfl ?_
  refine v_iload_n F (pc := 31) dL_isTold_31 rfl ?_
  refine v_iload_n F (pc := 32) dL_isTold_32 rfl ?_
  refine v_iload_n F (pc := 33) dL_isTold_33 rfl ?_
  refine v_iload F (pc := 34) dL_isTold_34 rfl ?_
  refine v_callV F (pc := 36) (As := [.int (iI (n)), .int (iI (p)), .int (iI (w)), .int (iI (c))]) (rest := [.int (iI (rc_all σ n p w c))]) ci_L_73 ct_X4_roomByCounting cs_X4_roomByCounting (N_roomByCounting l g X3 n p w c hkd) dL_isTold_36 (k0 := 7) rfl rfl o3 rfl rfl (Nat.le_of_ble_eq_true rfl) (Nat.le_of_ble_eq_true rfl) (Nat.le_of_ble_eq_true rfl) (Nat.le_of_ble_eq_true rfl) (Nat.le_of_ble_eq_true rfl) (fun v_ h4 hp_ => ?_) (fun _ _ z => z.elim)
  obtain ⟨rfl, X4⟩ := hp_
  obtain ⟨fs4, o4⟩ := X4.obj
  refine v_icmp_ne F (pc := 39) (a := rc_all σ n p w c) (b := rc_all σ n p w c) 93 dL_isTold_39 (by decide) (by omega) (by omega) (fun c_1 => ?_) (fun c_1 => ?_)
  · exfalso; omega
  · refine v_iload F (pc := 42) dL_isTold_42 rfl ?_
    refine v_if_le F (pc := 44) (a := rc_all σ n p w c) 51 dL_isTold_44 (by decide) (by omega) (fun c_2 => ?_) (fun c_2 => ?_)
    · refine v_iconst F (pc := 51) dL_isTold_51 ?_
      refine v_iload F (pc := 52) dL_isTold_52 rfl ?_
      refine v_if_eq F (pc := 54) (a := RF σ n p w c) 61 dL_isTold_54 (by decide) (by omega) (fun c_3 => ?_) (fun c_3 => ?_)
      · refine v_iconst F (pc := 61) dL_isTold_61 ?_
        refine v_icmp_ne F (pc := 62) (a := 0) (b := 0) 93 dL_isTold_62 (by decide) (by omega) (by omega) (fun c_4 => ?_) (fun c_4 => ?_)
        · exact absurd c_4 (by decide)
        · refine v_aload_n F (pc := 65) dL_isTold_65 rfl ?_
          refine v_iload_n F (pc := 66) dL_isTold_66 rfl ?_
          refine v_iload_n F (pc := 67) dL_isTold_67 rfl ?_
          refine v_iload_n F (pc := 68) dL_isTold_68 rfl ?_
          refine v_iconst F (pc := 69) dL_isTold_69 ?_
          refine v_callV F (pc := 70) (As := [.int (iI (n)), .int (iI (p)), .int (iI (w)), .int (iI (2))]) (rest := []) ci_L_70 ct_X4_roomFor cs_X4_roomFor (N_roomFor l g X4 n p w 2 hkd2) dL_isTold_70 (k0 := 7) rfl rfl o4 rfl rfl (Nat.le_of_ble_eq_true rfl) (Nat.le_of_ble_eq_true rfl) (Nat.le_of_ble_eq_true rfl) (Nat.le_of_ble_eq_true rfl) (Nat.le_of_ble_eq_true rfl) (fun v_ h5 hp_ => ?_) (fun _ _ z => z.elim)
          obtain ⟨rfl, X5⟩ := hp_
          obtain ⟨fs5, o5⟩ := X5.obj
          refine v_iload F (pc := 73) dL_isTold_73 rfl ?_
          refine v_icmp_gt F (pc := 75) (a := rc_all σ n p w 2) (b := rc_all σ n p w c) 93 dL_isTold_75 (by decide) (by omega) (by omega) (fun c_5 => ?_) (fun c_5 => ?_)
          · exfalso; omega
          · refine v_iload F (pc := 78) dL_isTold_78 rfl ?_
            refine v_iconst F (pc := 80) dL_isTold_80 ?_
            refine v_aload_n F (pc := 81) dL_isTold_81 rfl ?_
            refine v_callV F (pc := 82) (As := []) (rest := [.int (iI (1)), .int (iI (RF σ n p w c))]) ci_L_45 ct_X4_racks cs_X4_racks (N_racks l g X5) dL_isTold_82 (k0 := 7) rfl rfl o5 rfl rfl (Nat.le_of_ble_eq_true rfl) (Nat.le_of_ble_eq_true rfl) (Nat.le_of_ble_eq_true rfl) (Nat.le_of_ble_eq_true rfl) (Nat.le_of_ble_eq_true rfl) (fun v_ h6 hp_ => ?_) (fun _ _ z => z.elim)
            obtain ⟨rfl, X6⟩ := hp_
            obtain ⟨fs6, o6⟩ := X6.obj
            refine v_ishl8 F (pc := 85) (r := σ 5 0) dL_isTold_85 (by omega) ?_
            refine v_icmp_ge F (pc := 86) (a := RF σ n p w c) (b := p2 (σ 5 0)) 93 dL_isTold_86 (by decide) (by omega) (by omega) (fun c_6 => ?_) (fun c_6 => ?_)
            · exfalso; omega
            · refine v_iconst F (pc := 89) dL_isTold_89 ?_
              refine v_goto F (pc := 90) 94 dL_isTold_90 (by decide) ?_
              refine v_istore F (pc := 94) (lo' := [some (.ref x), some (.int (iI (n))), some (.int (iI (p))), some (.int (iI (w))), some (.int (iI (c))), some (.int (iI (RF σ n p w c))), some (.int (iI (rc_all σ n p w c))), some (.int (iI (σ 17 0))), some (.int (iI (1))), none, none]) dL_isTold_94 (Nat.le_of_ble_eq_true rfl) rfl ?_
              refine v_aload_n F (pc := 96) dL_isTold_96 rfl ?_
              refine v_iload_n F (pc := 97) dL_isTold_97 rfl ?_
              refine v_iload_n F (pc := 98) dL_isTold_98 rfl ?_
              refine v_iload_n F (pc := 99) dL_isTold_99 rfl ?_
              refine v_iload F (pc := 100) dL_isTold_100 rfl ?_
              refine v_callW F (pc := 102) (n := 5) (As := [.ref x, .int (iI (n)), .int (iI (p)), .int (iI (w)), .int (iI (c))]) (rest := []) lm_places lx_L lc_places ⟨by decide, by decide, by decide +kernel⟩ ls_places (KH_places l g X6 n p w c hkd hgv) dL_isTold_102 rfl rfl (Nat.le_of_ble_eq_true rfl) (Nat.le_of_ble_eq_true rfl) (Nat.le_of_ble_eq_true rfl) (Nat.le_of_ble_eq_true rfl) (Nat.le_of_ble_eq_true rfl) (fun v_ h7 hp_ => ?_)
              obtain ⟨rfl, X7⟩ := hp_
              obtain ⟨fs7, o7⟩ := X7.obj
              obtain ⟨σ1, hs1⟩ : ∃ σ1, pl_s σ n p w c = σ1 := ⟨_, rfl⟩
              rw [hs1] at X7
              by_cases hpc : pl_c σ n p w c = 0
              · rw [show (if pl_c σ n p w c = 0 then σ 18 0 else (-3 : Int)) = σ 18 0 from if_pos hpc]
                obtain ⟨hP1, hP2, hP3, hG⟩ := pl_yes hIV.1 hkd hpc
                rw [hs1] at hG
                have hIV1 := X7.iv
                have hf1 := hG.find hIV1 hm.1
                have hrc1 := hG.rc hIV hIV1 hkd hP2 rfl hP3
                have hout := hG.out hIV hIV1
                have hg15 := hG.2.2.2.2.2.2.2.2.2.1
                have hg17 := hG.2.1
                have hmin := ((prA_cases (n := n) (p := p) (w := w) (c := c) hIV).resolve_left (by omega)).2.2.2
                have hrc2 := hout.1.rc hIV.1 n p w c
                refine v_istore F (pc := 105) (lo' := [some (.ref x), some (.int (iI (n))), some (.int (iI (p))), some (.int (iI (w))), some (.int (iI (c))), some (.int (iI (RF σ n p w c))), some (.int (iI (rc_all σ n p w c))), some (.int (iI (σ 17 0))), some (.int (iI (1))), some (.int (iI (σ 18 0))), none]) dL_isTold_105 (Nat.le_of_ble_eq_true rfl) rfl ?_
                refine v_iload F (pc := 107) dL_isTold_107 rfl ?_
                refine v_if_ge F (pc := 109) (a := σ 18 0) 144 dL_isTold_109 (by decide) (by omega) (fun c_7 => ?_) (fun c_7 => ?_)
                · refine v_iconst F (pc := 144) dL_isTold_144 ?_
                  refine v_istore F (pc := 145) (lo' := [some (.ref x), some (.int (iI (n))), some (.int (iI (p))), some (.int (iI (w))), some (.int (iI (c))), some (.int (iI (RF σ n p w c))), some (.int (iI (rc_all σ n p w c))), some (.int (iI (σ 17 0))), some (.int (iI (1))), some (.int (iI (σ 18 0))), some (.int (iI (0)))]) dL_isTold_145 (Nat.le_of_ble_eq_true rfl) rfl ?_
                  have LP147 : ∀ (N_ : Nat) (j : Int), (0 ≤ j ∧ j ≤ m_prA σ n p w c) → (m_prA σ n p w c - j).toNat < N_ → VE pX l eX ({ frames := 14, cells := 50, slots := 400, locals := 249 }) sX mX ([.ref x, .int (iI (n)), .int (iI (p)), .int (iI (w)), .int (iI (c))] : List Value).toArray bX tX cX 11 g AX (h7) 26 305 147 [some (.ref x), some (.int (iI (n))), some (.int (iI (p))), some (.int (iI (w))), some (.int (iI (c))), some (.int (iI (RF σ n p w c))), some (.int (iI (rc_all σ n p w c))), some (.int (iI (σ 17 0))), some (.int (iI (1))), some (.int (iI (σ 18 0))), some (.int (iI (j)))] [] (fun v h1 => v = some (.int (iI 1)) ∧ ∃ σ2, SL g x h1 σ2 kf ∧ Ag8 σ σ2 ∧ σ2 18 0 = if pl_c σ n p w c = 0 then σ 18 0 + 1 else σ 18 0) (noX) 50 400 := by
                    intro N_
                    induction N_ with
                    | zero => intro j _ hm_; exact absurd hm_ (Nat.not_lt_zero _)
                    | succ N_ ih =>
                      intro j hj hm_
                      refine v_iload F (pc := 147) dL_isTold_147 rfl ?_
                      refine v_iload F (pc := 149) dL_isTold_149 rfl ?_
                      refine v_ishrM F (pc := 151) (a := RF σ n p w c) (b := j) dL_isTold_151 ?_
                      refine v_iconst F (pc := 152) dL_isTold_152 ?_
                      refine v_iandM F (pc := 153) (a := shI (RF σ n p w c) j) (b := 1) dL_isTold_153 ?_
                      rw [show maI (shI (RF σ n p w c) j) 1 = (if m_slotIn σ j n p w c = -1 then 0 else 1) from by rw [bit_at (by omega) (by omega)]; exact rf_bit (by omega)]
                      refine v_if_ne F (pc := 154) (a := if m_slotIn σ j n p w c = -1 then 0 else 1) 163 dL_isTold_154 (by decide) (by split <;> omega) (fun c_8 => ?_) (fun c_8 => ?_)
                      · have hft : m_slotIn σ j n p w c ≠ -1 := fun z => c_8 (if_pos z)
                        have hj2 : j = m_prA σ n p w c := by
                          by_cases z : j < m_prA σ n p w c
                          · exact absurd (hmin j hj.1 z) hft
                          · omega
                        refine v_iload F (pc := 163) dL_isTold_163 rfl ?_
                        refine v_if_eq F (pc := 165) (a := 1) 210 dL_isTold_165 (by decide) (by omega) (fun c_9 => ?_) (fun c_9 => ?_)
                        · exact absurd c_9 (by decide)
                        · refine v_aload_n F (pc := 168) dL_isTold_168 rfl ?_
                          refine v_iload F (pc := 169) dL_isTold_169 rfl ?_
                          refine v_callV F (pc := 171) (As := [.int (iI (σ 18 0))]) (rest := []) ci_L_26 ct_X4_rackOf cs_X4_rackOf (N_rackOf l g X7 (σ 18 0) hf1 hm.1 (by omega)) dL_isTold_171 (k0 := 7) rfl rfl o7 rfl rfl (Nat.le_of_ble_eq_true rfl) (Nat.le_of_ble_eq_true rfl) (Nat.le_of_ble_eq_true rfl) (Nat.le_of_ble_eq_true rfl) (Nat.le_of_ble_eq_true rfl) (fun v_ h8 hp_ => ?_) (fun _ _ z => z.elim)
                          obtain ⟨rfl, X8⟩ := hp_
                          obtain ⟨fs8, o8⟩ := X8.obj
                          refine v_iload F (pc := 174) dL_isTold_174 rfl ?_
                          refine v_icmp_ne F (pc := 176) (a := σ1 15 (σ 17 0)) (b := j) 210 dL_isTold_176 (by decide) (by omega) (by omega) (fun c_10 => ?_) (fun c_10 => ?_)
                          · exfalso; omega
                          · refine v_aload_n F (pc := 179) dL_isTold_179 rfl ?_
                            refine v_callV F (pc := 180) (As := []) (rest := []) ci_L_41 ct_X4_machines cs_X4_machines (N_machines l g X8) dL_isTold_180 (k0 := 7) rfl rfl o8 rfl rfl (Nat.le_of_ble_eq_true rfl) (Nat.le_of_ble_eq_true rfl) (Nat.le_of_ble_eq_true rfl) (Nat.le_of_ble_eq_true rfl) (Nat.le_of_ble_eq_true rfl) (fun v_ h9 hp_ => ?_) (fun _ _ z => z.elim)
                            obtain ⟨rfl, X9⟩ := hp_
                            obtain ⟨fs9, o9⟩ := X9.obj
                            refine v_iload F (pc := 183) dL_isTold_183 rfl ?_
                            refine v_iconst F (pc := 185) dL_isTold_185 ?_
                            refine v_iadd F (pc := 186) (a := σ 17 0) (b := 1) dL_isTold_186 ?_
                            refine v_icmp_ne F (pc := 187) (a := σ1 17 0) (b := (σ 17 0) + 1) 210 dL_isTold_187 (by decide) (by omega) (by omega) (fun c_11 => ?_) (fun c_11 => ?_)
                            · exfalso; omega
                            · refine v_aload_n F (pc := 190) dL_isTold_190 rfl ?_
                              refine v_iload_n F (pc := 191) dL_isTold_191 rfl ?_
                              refine v_iload_n F (pc := 192) dL_isTold_192 rfl ?_
                              refine v_iload_n F (pc := 193) dL_isTold_193 rfl ?_
                              refine v_iload F (pc := 194) dL_isTold_194 rfl ?_
                              refine v_callV F (pc := 196) (As := [.int (iI (n)), .int (iI (p)), .int (iI (w)), .int (iI (c))]) (rest := []) ci_L_70 ct_X4_roomFor cs_X4_roomFor (N_roomFor l g X9 n p w c hkd) dL_isTold_196 (k0 := 7) rfl rfl o9 rfl rfl (Nat.le_of_ble_eq_true rfl) (Nat.le_of_ble_eq_true rfl) (Nat.le_of_ble_eq_true rfl) (Nat.le_of_ble_eq_true rfl) (Nat.le_of_ble_eq_true rfl) (fun v_ h10 hp_ => ?_) (fun _ _ z => z.elim)
                              obtain ⟨rfl, X10⟩ := hp_
                              obtain ⟨fs10, o10⟩ := X10.obj
                              refine v_iload F (pc := 199) dL_isTold_199 rfl ?_
                              refine v_iconst F (pc := 201) dL_isTold_201 ?_
                              refine v_isub F (pc := 202) (a := rc_all σ n p w c) (b := 1) dL_isTold_202 ?_
                              refine v_icmp_ne F (pc := 203) (a := rc_all σ1 n p w c) (b := (rc_all σ n p w c) - 1) 210 dL_isTold_203 (by decide) (by omega) (by omega) (fun c_12 => ?_) (fun c_12 => ?_)
                              · exfalso; omega
                              · refine v_iconst F (pc := 206) dL_isTold_206 ?_
                                refine v_goto F (pc := 207) 211 dL_isTold_207 (by decide) ?_
                                refine v_istore F (pc := 211) (lo' := [some (.ref x), some (.int (iI (n))), some (.int (iI (p))), some (.int (iI (w))), some (.int (iI (c))), some (.int (iI (RF σ n p w c))), some (.int (iI (rc_all σ n p w c))), some (.int (iI (σ 17 0))), some (.int (iI (1))), some (.int (iI (σ 18 0))), some (.int (iI (j)))]) dL_isTold_211 (Nat.le_of_ble_eq_true rfl) rfl ?_
                                refine v_iload F (pc := 213) dL_isTold_213 rfl ?_
                                refine v_if_eq F (pc := 215) (a := 1) 257 dL_isTold_215 (by decide) (by omega) (fun c_13 => ?_) (fun c_13 => ?_)
                                · exact absurd c_13 (by decide)
                                · refine v_aload_n F (pc := 218) dL_isTold_218 rfl ?_
                                  refine v_iload F (pc := 219) dL_isTold_219 rfl ?_
                                  refine v_callV F (pc := 221) (As := [.int (iI (σ 18 0))]) (rest := []) ci_L_82 ct_X4_takeOut cs_X4_takeOut (N_takeOut l g X10 (σ 18 0) hf1 hm.1 (by omega)) dL_isTold_221 (k0 := 7) rfl rfl o10 rfl rfl (Nat.le_of_ble_eq_true rfl) (Nat.le_of_ble_eq_true rfl) (Nat.le_of_ble_eq_true rfl) (Nat.le_of_ble_eq_true rfl) (Nat.le_of_ble_eq_true rfl) (fun v_ h11 hp_ => ?_) (fun _ _ z => z.elim)
                                  obtain ⟨rfl, X11⟩ := hp_
                                  obtain ⟨fs11, o11⟩ := X11.obj
                                  refine v_iload F (pc := 224) dL_isTold_224 rfl ?_
                                  refine v_icmp_ne F (pc := 226) (a := σ1 15 (σ 17 0)) (b := j) 257 dL_isTold_226 (by decide) (by omega) (by omega) (fun c_14 => ?_) (fun c_14 => ?_)
                                  · exfalso; omega
                                  · refine v_aload_n F (pc := 229) dL_isTold_229 rfl ?_
                                    refine v_iload_n F (pc := 230) dL_isTold_230 rfl ?_
                                    refine v_iload_n F (pc := 231) dL_isTold_231 rfl ?_
                                    refine v_iload_n F (pc := 232) dL_isTold_232 rfl ?_
                                    refine v_iload F (pc := 233) dL_isTold_233 rfl ?_
                                    refine v_callV F (pc := 235) (As := [.int (iI (n)), .int (iI (p)), .int (iI (w)), .int (iI (c))]) (rest := []) ci_L_70 ct_X4_roomFor cs_X4_roomFor (N_roomFor l g X11 n p w c hkd) dL_isTold_235 (k0 := 7) rfl rfl o11 rfl rfl (Nat.le_of_ble_eq_true rfl) (Nat.le_of_ble_eq_true rfl) (Nat.le_of_ble_eq_true rfl) (Nat.le_of_ble_eq_true rfl) (Nat.le_of_ble_eq_true rfl) (fun v_ h12 hp_ => ?_) (fun _ _ z => z.elim)
                                    obtain ⟨rfl, X12⟩ := hp_
                                    obtain ⟨fs12, o12⟩ := X12.obj
                                    refine v_iload F (pc := 238) dL_isTold_238 rfl ?_
                                    refine v_icmp_ne F (pc := 240) (a := rc_all (tO_s σ1 (σ 18 0)) n p w c) (b := rc_all σ n p w c) 257 dL_isTold_240 (by decide) (by omega) (by omega) (fun c_15 => ?_) (fun c_15 => ?_)
                                    · exfalso; omega
                                    · refine v_aload_n F (pc := 243) dL_isTold_243 rfl ?_
                                      refine v_iload F (pc := 244) dL_isTold_244 rfl ?_
                                      refine v_callW F (pc := 246) (n := 2) (As := [.ref x, .int (iI (σ 18 0))]) (rest := []) lm_rack lx_L lc_rack ⟨by decide, by decide, by decide +kernel⟩ ls_rack (KH_rack l g X12 (σ 18 0) (by omega)) dL_isTold_246 rfl rfl (Nat.le_of_ble_eq_true rfl) (Nat.le_of_ble_eq_true rfl) (Nat.le_of_ble_eq_true rfl) (Nat.le_of_ble_eq_true rfl) (Nat.le_of_ble_eq_true rfl) (fun v_ h13 hp_ => ?_)
                                      obtain ⟨rfl, X13⟩ := hp_
                                      obtain ⟨fs13, o13⟩ := X13.obj
                                      rw [show (if fnd_c (tO_s σ1 (σ 18 0)) (σ 18 0) = 0 then tO_s σ1 (σ 18 0) 15 (m_find (tO_s σ1 (σ 18 0)) (σ 18 0)) else (-1 : Int)) = -1 from if_neg (by omega)]
                                      refine v_iconst F (pc := 249) dL_isTold_249 ?_
                                      refine v_icmp_ne F (pc := 250) (a := -1) (b := -1) 257 dL_isTold_250 (by decide) (by omega) (by omega) (fun c_16 => ?_) (fun c_16 => ?_)
                                      · exact absurd c_16 (by decide)
                                      · refine v_iconst F (pc := 253) dL_isTold_253 ?_
                                        refine v_goto F (pc := 254) 258 dL_isTold_254 (by decide) ?_
                                        refine v_iret F (pc := 258) (z := (iI (1))) dL_isTold_258 rfl (by first | rfl | exact nar_bI _ | decide) (Nat.le_of_ble_eq_true rfl) (Nat.le_of_ble_eq_true rfl) ?_
                                        exact ⟨rfl, _, X13, hout.1, by rw [if_pos hpc]; exact hout.2.1⟩
                      · have hno : m_slotIn σ j n p w c = -1 := by
                          by_cases z : m_slotIn σ j n p w c = -1
                          · exact z
                          · rw [if_neg z] at c_8; omega
                        have hj3 : j ≠ m_prA σ n p w c := fun z => hP3 (by rw [← z]; exact hno)
                        refine v_iinc F (pc := 157) (lo' := [some (.ref x), some (.int (iI (n))), some (.int (iI (p))), some (.int (iI (w))), some (.int (iI (c))), some (.int (iI (RF σ n p w c))), some (.int (iI (rc_all σ n p w c))), some (.int (iI (σ 17 0))), some (.int (iI (1))), some (.int (iI (σ 18 0))), some (.int (iI (j + 1)))]) dL_isTold_157 rfl (Nat.le_of_ble_eq_true rfl) rfl ?_
                        refine v_goto F (pc := 160) 147 dL_isTold_160 (by decide) ?_
                        exact ih (j + 1) (by omega) (by omega)
                  exact LP147 9 0 (by omega) (by omega)
                · exfalso; omega
              · rw [show (if pl_c σ n p w c = 0 then σ 18 0 else (-3 : Int)) = -3 from if_neg hpc]
                obtain ⟨hA1, hA2⟩ := pl_not hIV.1 hkd hpc
                rw [hs1] at hA2
                have hA3 := hA2.2.1
                refine v_istore F (pc := 105) (lo' := [some (.ref x), some (.int (iI (n))), some (.int (iI (p))), some (.int (iI (w))), some (.int (iI (c))), some (.int (iI (RF σ n p w c))), some (.int (iI (rc_all σ n p w c))), some (.int (iI (σ 17 0))), some (.int (iI (1))), some (.int (iI (-3))), none]) dL_isTold_105 (Nat.le_of_ble_eq_true rfl) rfl ?_
                refine v_iload F (pc := 107) dL_isTold_107 rfl ?_
                refine v_if_ge F (pc := 109) (a := -3) 144 dL_isTold_109 (by decide) (by omega) (fun c_17 => ?_) (fun c_17 => ?_)
                · exact absurd c_17 (by decide)
                · refine v_iload F (pc := 112) dL_isTold_112 rfl ?_
                  refine v_if_eq F (pc := 114) (a := 1) 142 dL_isTold_114 (by decide) (by omega) (fun c_18 => ?_) (fun c_18 => ?_)
                  · exact absurd c_18 (by decide)
                  · refine v_iload F (pc := 117) dL_isTold_117 rfl ?_
                    refine v_if_eq F (pc := 119) (a := rc_all σ n p w c) 129 dL_isTold_119 (by decide) (by omega) (fun c_19 => ?_) (fun c_19 => ?_)
                    · refine v_aload_n F (pc := 129) dL_isTold_129 rfl ?_
                      refine v_callV F (pc := 130) (As := []) (rest := []) ci_L_41 ct_X4_machines cs_X4_machines (N_machines l g X7) dL_isTold_130 (k0 := 7) rfl rfl o7 rfl rfl (Nat.le_of_ble_eq_true rfl) (Nat.le_of_ble_eq_true rfl) (Nat.le_of_ble_eq_true rfl) (Nat.le_of_ble_eq_true rfl) (Nat.le_of_ble_eq_true rfl) (fun v_ h14 hp_ => ?_) (fun _ _ z => z.elim)
                      obtain ⟨rfl, X14⟩ := hp_
                      obtain ⟨fs14, o14⟩ := X14.obj
                      refine v_iload F (pc := 133) dL_isTold_133 rfl ?_
                      refine v_icmp_ne F (pc := 135) (a := σ1 17 0) (b := σ 17 0) 142 dL_isTold_135 (by decide) (by omega) (by omega) (fun c_20 => ?_) (fun c_20 => ?_)
                      · exfalso; omega
                      · refine v_iconst F (pc := 138) dL_isTold_138 ?_
                        refine v_goto F (pc := 139) 143 dL_isTold_139 (by decide) ?_
                        refine v_iret F (pc := 143) (z := (iI (1))) dL_isTold_143 rfl (by first | rfl | exact nar_bI _ | decide) (Nat.le_of_ble_eq_true rfl) (Nat.le_of_ble_eq_true rfl) ?_
                        exact ⟨rfl, σ1, X14, hA2.to8, by rw [if_neg hpc]; exact hA2.2.2.1⟩
                    · refine v_iload F (pc := 122) dL_isTold_122 rfl ?_
                      refine v_bipush F (pc := 124) dL_isTold_124 (by decide) ?_
                      refine v_icmp_ne F (pc := 126) (a := σ 17 0) (b := 60) 142 dL_isTold_126 (by decide) (by omega) (by omega) (fun c_21 => ?_) (fun c_21 => ?_)
                      · exfalso; omega
                      · refine v_aload_n F (pc := 129) dL_isTold_129 rfl ?_
                        refine v_callV F (pc := 130) (As := []) (rest := []) ci_L_41 ct_X4_machines cs_X4_machines (N_machines l g X7) dL_isTold_130 (k0 := 7) rfl rfl o7 rfl rfl (Nat.le_of_ble_eq_true rfl) (Nat.le_of_ble_eq_true rfl) (Nat.le_of_ble_eq_true rfl) (Nat.le_of_ble_eq_true rfl) (Nat.le_of_ble_eq_true rfl) (fun v_ h15 hp_ => ?_) (fun _ _ z => z.elim)
                        obtain ⟨rfl, X15⟩ := hp_
                        obtain ⟨fs15, o15⟩ := X15.obj
                        refine v_iload F (pc := 133) dL_isTold_133 rfl ?_
                        refine v_icmp_ne F (pc := 135) (a := σ1 17 0) (b := σ 17 0) 142 dL_isTold_135 (by decide) (by omega) (by omega) (fun c_22 => ?_) (fun c_22 => ?_)
                        · exfalso; omega
                        · refine v_iconst F (pc := 138) dL_isTold_138 ?_
                          refine v_goto F (pc := 139) 143 dL_isTold_139 (by decide) ?_
                          refine v_iret F (pc := 143) (z := (iI (1))) dL_isTold_143 rfl (by first | rfl | exact nar_bI _ | decide) (Nat.le_of_ble_eq_true rfl) (Nat.le_of_ble_eq_true rfl) ?_
                          exact ⟨rfl, σ1, X15, hA2.to8, by rw [if_neg hpc]; exact hA2.2.2.1⟩
      · refine v_iconst F (pc := 57) dL_isTold_57 ?_
        refine v_goto F (pc := 58) 62 dL_isTold_58 (by decide) ?_
        refine v_icmp_ne F (pc := 62) (a := 0) (b := 1) 93 dL_isTold_62 (by decide) (by omega) (by omega) (fun c_23 => ?_) (fun c_23 => ?_)
        · exfalso; omega
        · exact absurd c_23 (by decide)
    · refine v_iconst F (pc := 47) dL_isTold_47 ?_
      refine v_goto F (pc := 48) 52 dL_isTold_48 (by decide) ?_
      refine v_iload F (pc := 52) dL_isTold_52 rfl ?_
      refine v_if_eq F (pc := 54) (a := RF σ n p w c) 61 dL_isTold_54 (by decide) (by omega) (fun c_24 => ?_) (fun c_24 => ?_)
      · refine v_iconst F (pc := 61) dL_isTold_61 ?_
        refine v_icmp_ne F (pc := 62) (a := 1) (b := 0) 93 dL_isTold_62 (by decide) (by omega) (by omega) (fun c_25 => ?_) (fun c_25 => ?_)
        · exfalso; omega
        · exact absurd c_25 (by decide)
      · refine v_iconst F (pc := 57) dL_isTold_57 ?_
        refine v_goto F (pc := 58) 62 dL_isTold_58 (by decide) ?_
        refine v_icmp_ne F (pc := 62) (a := 1) (b := 1) 93 dL_isTold_62 (by decide) (by omega) (by omega) (fun c_26 => ?_) (fun c_26 => ?_)
        · exact absurd c_26 (by decide)
        · refine v_aload_n F (pc := 65) dL_isTold_65 rfl ?_
          refine v_iload_n F (pc := 66) dL_isTold_66 rfl ?_
          refine v_iload_n F (pc := 67) dL_isTold_67 rfl ?_
          refine v_iload_n F (pc := 68) dL_isTold_68 rfl ?_
          refine v_iconst F (pc := 69) dL_isTold_69 ?_
          refine v_callV F (pc := 70) (As := [.int (iI (n)), .int (iI (p)), .int (iI (w)), .int (iI (2))]) (rest := []) ci_L_70 ct_X4_roomFor cs_X4_roomFor (N_roomFor l g X4 n p w 2 hkd2) dL_isTold_70 (k0 := 7) rfl rfl o4 rfl rfl (Nat.le_of_ble_eq_true rfl) (Nat.le_of_ble_eq_true rfl) (Nat.le_of_ble_eq_true rfl) (Nat.le_of_ble_eq_true rfl) (Nat.le_of_ble_eq_true rfl) (fun v_ h16 hp_ => ?_) (fun _ _ z => z.elim)
          obtain ⟨rfl, X16⟩ := hp_
          obtain ⟨fs16, o16⟩ := X16.obj
          refine v_iload F (pc := 73) dL_isTold_73 rfl ?_
          refine v_icmp_gt F (pc := 75) (a := rc_all σ n p w 2) (b := rc_all σ n p w c) 93 dL_isTold_75 (by decide) (by omega) (by omega) (fun c_27 => ?_) (fun c_27 => ?_)
          · exfalso; omega
          · refine v_iload F (pc := 78) dL_isTold_78 rfl ?_
            refine v_iconst F (pc := 80) dL_isTold_80 ?_
            refine v_aload_n F (pc := 81) dL_isTold_81 rfl ?_
            refine v_callV F (pc := 82) (As := []) (rest := [.int (iI (1)), .int (iI (RF σ n p w c))]) ci_L_45 ct_X4_racks cs_X4_racks (N_racks l g X16) dL_isTold_82 (k0 := 7) rfl rfl o16 rfl rfl (Nat.le_of_ble_eq_true rfl) (Nat.le_of_ble_eq_true rfl) (Nat.le_of_ble_eq_true rfl) (Nat.le_of_ble_eq_true rfl) (Nat.le_of_ble_eq_true rfl) (fun v_ h17 hp_ => ?_) (fun _ _ z => z.elim)
            obtain ⟨rfl, X17⟩ := hp_
            obtain ⟨fs17, o17⟩ := X17.obj
            refine v_ishl8 F (pc := 85) (r := σ 5 0) dL_isTold_85 (by omega) ?_
            refine v_icmp_ge F (pc := 86) (a := RF σ n p w c) (b := p2 (σ 5 0)) 93 dL_isTold_86 (by decide) (by omega) (by omega) (fun c_28 => ?_) (fun c_28 => ?_)
            · exfalso; omega
            · refine v_iconst F (pc := 89) dL_isTold_89 ?_
              refine v_goto F (pc := 90) 94 dL_isTold_90 (by decide) ?_
              refine v_istore F (pc := 94) (lo' := [some (.ref x), some (.int (iI (n))), some (.int (iI (p))), some (.int (iI (w))), some (.int (iI (c))), some (.int (iI (RF σ n p w c))), some (.int (iI (rc_all σ n p w c))), some (.int (iI (σ 17 0))), some (.int (iI (1))), none, none]) dL_isTold_94 (Nat.le_of_ble_eq_true rfl) rfl ?_
              refine v_aload_n F (pc := 96) dL_isTold_96 rfl ?_
              refine v_iload_n F (pc := 97) dL_isTold_97 rfl ?_
              refine v_iload_n F (pc := 98) dL_isTold_98 rfl ?_
              refine v_iload_n F (pc := 99) dL_isTold_99 rfl ?_
              refine v_iload F (pc := 100) dL_isTold_100 rfl ?_
              refine v_callW F (pc := 102) (n := 5) (As := [.ref x, .int (iI (n)), .int (iI (p)), .int (iI (w)), .int (iI (c))]) (rest := []) lm_places lx_L lc_places ⟨by decide, by decide, by decide +kernel⟩ ls_places (KH_places l g X17 n p w c hkd hgv) dL_isTold_102 rfl rfl (Nat.le_of_ble_eq_true rfl) (Nat.le_of_ble_eq_true rfl) (Nat.le_of_ble_eq_true rfl) (Nat.le_of_ble_eq_true rfl) (Nat.le_of_ble_eq_true rfl) (fun v_ h18 hp_ => ?_)
              obtain ⟨rfl, X18⟩ := hp_
              obtain ⟨fs18, o18⟩ := X18.obj
              obtain ⟨σ1, hs1⟩ : ∃ σ1, pl_s σ n p w c = σ1 := ⟨_, rfl⟩
              rw [hs1] at X18
              by_cases hpc : pl_c σ n p w c = 0
              · rw [show (if pl_c σ n p w c = 0 then σ 18 0 else (-3 : Int)) = σ 18 0 from if_pos hpc]
                obtain ⟨hP1, hP2, hP3, hG⟩ := pl_yes hIV.1 hkd hpc
                rw [hs1] at hG
                have hIV1 := X18.iv
                have hf1 := hG.find hIV1 hm.1
                have hrc1 := hG.rc hIV hIV1 hkd hP2 rfl hP3
                have hout := hG.out hIV hIV1
                have hg15 := hG.2.2.2.2.2.2.2.2.2.1
                have hg17 := hG.2.1
                have hmin := ((prA_cases (n := n) (p := p) (w := w) (c := c) hIV).resolve_left (by omega)).2.2.2
                have hrc2 := hout.1.rc hIV.1 n p w c
                refine v_istore F (pc := 105) (lo' := [some (.ref x), some (.int (iI (n))), some (.int (iI (p))), some (.int (iI (w))), some (.int (iI (c))), some (.int (iI (RF σ n p w c))), some (.int (iI (rc_all σ n p w c))), some (.int (iI (σ 17 0))), some (.int (iI (1))), some (.int (iI (σ 18 0))), none]) dL_isTold_105 (Nat.le_of_ble_eq_true rfl) rfl ?_
                refine v_iload F (pc := 107) dL_isTold_107 rfl ?_
                refine v_if_ge F (pc := 109) (a := σ 18 0) 144 dL_isTold_109 (by decide) (by omega) (fun c_29 => ?_) (fun c_29 => ?_)
                · refine v_iconst F (pc := 144) dL_isTold_144 ?_
                  refine v_istore F (pc := 145) (lo' := [some (.ref x), some (.int (iI (n))), some (.int (iI (p))), some (.int (iI (w))), some (.int (iI (c))), some (.int (iI (RF σ n p w c))), some (.int (iI (rc_all σ n p w c))), some (.int (iI (σ 17 0))), some (.int (iI (1))), some (.int (iI (σ 18 0))), some (.int (iI (0)))]) dL_isTold_145 (Nat.le_of_ble_eq_true rfl) rfl ?_
                  have LP147 : ∀ (N_ : Nat) (j : Int), (0 ≤ j ∧ j ≤ m_prA σ n p w c) → (m_prA σ n p w c - j).toNat < N_ → VE pX l eX ({ frames := 14, cells := 50, slots := 400, locals := 249 }) sX mX ([.ref x, .int (iI (n)), .int (iI (p)), .int (iI (w)), .int (iI (c))] : List Value).toArray bX tX cX 11 g AX (h18) 26 305 147 [some (.ref x), some (.int (iI (n))), some (.int (iI (p))), some (.int (iI (w))), some (.int (iI (c))), some (.int (iI (RF σ n p w c))), some (.int (iI (rc_all σ n p w c))), some (.int (iI (σ 17 0))), some (.int (iI (1))), some (.int (iI (σ 18 0))), some (.int (iI (j)))] [] (fun v h1 => v = some (.int (iI 1)) ∧ ∃ σ2, SL g x h1 σ2 kf ∧ Ag8 σ σ2 ∧ σ2 18 0 = if pl_c σ n p w c = 0 then σ 18 0 + 1 else σ 18 0) (noX) 50 400 := by
                    intro N_
                    induction N_ with
                    | zero => intro j _ hm_; exact absurd hm_ (Nat.not_lt_zero _)
                    | succ N_ ih =>
                      intro j hj hm_
                      refine v_iload F (pc := 147) dL_isTold_147 rfl ?_
                      refine v_iload F (pc := 149) dL_isTold_149 rfl ?_
                      refine v_ishrM F (pc := 151) (a := RF σ n p w c) (b := j) dL_isTold_151 ?_
                      refine v_iconst F (pc := 152) dL_isTold_152 ?_
                      refine v_iandM F (pc := 153) (a := shI (RF σ n p w c) j) (b := 1) dL_isTold_153 ?_
                      rw [show maI (shI (RF σ n p w c) j) 1 = (if m_slotIn σ j n p w c = -1 then 0 else 1) from by rw [bit_at (by omega) (by omega)]; exact rf_bit (by omega)]
                      refine v_if_ne F (pc := 154) (a := if m_slotIn σ j n p w c = -1 then 0 else 1) 163 dL_isTold_154 (by decide) (by split <;> omega) (fun c_30 => ?_) (fun c_30 => ?_)
                      · have hft : m_slotIn σ j n p w c ≠ -1 := fun z => c_30 (if_pos z)
                        have hj2 : j = m_prA σ n p w c := by
                          by_cases z : j < m_prA σ n p w c
                          · exact absurd (hmin j hj.1 z) hft
                          · omega
                        refine v_iload F (pc := 163) dL_isTold_163 rfl ?_
                        refine v_if_eq F (pc := 165) (a := 1) 210 dL_isTold_165 (by decide) (by omega) (fun c_31 => ?_) (fun c_31 => ?_)
                        · exact absurd c_31 (by decide)
                        · refine v_aload_n F (pc := 168) dL_isTold_168 rfl ?_
                          refine v_iload F (pc := 169) dL_isTold_169 rfl ?_
                          refine v_callV F (pc := 171) (As := [.int (iI (σ 18 0))]) (rest := []) ci_L_26 ct_X4_rackOf cs_X4_rackOf (N_rackOf l g X18 (σ 18 0) hf1 hm.1 (by omega)) dL_isTold_171 (k0 := 7) rfl rfl o18 rfl rfl (Nat.le_of_ble_eq_true rfl) (Nat.le_of_ble_eq_true rfl) (Nat.le_of_ble_eq_true rfl) (Nat.le_of_ble_eq_true rfl) (Nat.le_of_ble_eq_true rfl) (fun v_ h19 hp_ => ?_) (fun _ _ z => z.elim)
                          obtain ⟨rfl, X19⟩ := hp_
                          obtain ⟨fs19, o19⟩ := X19.obj
                          refine v_iload F (pc := 174) dL_isTold_174 rfl ?_
                          refine v_icmp_ne F (pc := 176) (a := σ1 15 (σ 17 0)) (b := j) 210 dL_isTold_176 (by decide) (by omega) (by omega) (fun c_32 => ?_) (fun c_32 => ?_)
                          · exfalso; omega
                          · refine v_aload_n F (pc := 179) dL_isTold_179 rfl ?_
                            refine v_callV F (pc := 180) (As := []) (rest := []) ci_L_41 ct_X4_machines cs_X4_machines (N_machines l g X19) dL_isTold_180 (k0 := 7) rfl rfl o19 rfl rfl (Nat.le_of_ble_eq_true rfl) (Nat.le_of_ble_eq_true rfl) (Nat.le_of_ble_eq_true rfl) (Nat.le_of_ble_eq_true rfl) (Nat.le_of_ble_eq_true rfl) (fun v_ h20 hp_ => ?_) (fun _ _ z => z.elim)
                            obtain ⟨rfl, X20⟩ := hp_
                            obtain ⟨fs20, o20⟩ := X20.obj
                            refine v_iload F (pc := 183) dL_isTold_183 rfl ?_
                            refine v_iconst F (pc := 185) dL_isTold_185 ?_
                            refine v_iadd F (pc := 186) (a := σ 17 0) (b := 1) dL_isTold_186 ?_
                            refine v_icmp_ne F (pc := 187) (a := σ1 17 0) (b := (σ 17 0) + 1) 210 dL_isTold_187 (by decide) (by omega) (by omega) (fun c_33 => ?_) (fun c_33 => ?_)
                            · exfalso; omega
                            · refine v_aload_n F (pc := 190) dL_isTold_190 rfl ?_
                              refine v_iload_n F (pc := 191) dL_isTold_191 rfl ?_
                              refine v_iload_n F (pc := 192) dL_isTold_192 rfl ?_
                              refine v_iload_n F (pc := 193) dL_isTold_193 rfl ?_
                              refine v_iload F (pc := 194) dL_isTold_194 rfl ?_
                              refine v_callV F (pc := 196) (As := [.int (iI (n)), .int (iI (p)), .int (iI (w)), .int (iI (c))]) (rest := []) ci_L_70 ct_X4_roomFor cs_X4_roomFor (N_roomFor l g X20 n p w c hkd) dL_isTold_196 (k0 := 7) rfl rfl o20 rfl rfl (Nat.le_of_ble_eq_true rfl) (Nat.le_of_ble_eq_true rfl) (Nat.le_of_ble_eq_true rfl) (Nat.le_of_ble_eq_true rfl) (Nat.le_of_ble_eq_true rfl) (fun v_ h21 hp_ => ?_) (fun _ _ z => z.elim)
                              obtain ⟨rfl, X21⟩ := hp_
                              obtain ⟨fs21, o21⟩ := X21.obj
                              refine v_iload F (pc := 199) dL_isTold_199 rfl ?_
                              refine v_iconst F (pc := 201) dL_isTold_201 ?_
                              refine v_isub F (pc := 202) (a := rc_all σ n p w c) (b := 1) dL_isTold_202 ?_
                              refine v_icmp_ne F (pc := 203) (a := rc_all σ1 n p w c) (b := (rc_all σ n p w c) - 1) 210 dL_isTold_203 (by decide) (by omega) (by omega) (fun c_34 => ?_) (fun c_34 => ?_)
                              · exfalso; omega
                              · refine v_iconst F (pc := 206) dL_isTold_206 ?_
                                refine v_goto F (pc := 207) 211 dL_isTold_207 (by decide) ?_
                                refine v_istore F (pc := 211) (lo' := [some (.ref x), some (.int (iI (n))), some (.int (iI (p))), some (.int (iI (w))), some (.int (iI (c))), some (.int (iI (RF σ n p w c))), some (.int (iI (rc_all σ n p w c))), some (.int (iI (σ 17 0))), some (.int (iI (1))), some (.int (iI (σ 18 0))), some (.int (iI (j)))]) dL_isTold_211 (Nat.le_of_ble_eq_true rfl) rfl ?_
                                refine v_iload F (pc := 213) dL_isTold_213 rfl ?_
                                refine v_if_eq F (pc := 215) (a := 1) 257 dL_isTold_215 (by decide) (by omega) (fun c_35 => ?_) (fun c_35 => ?_)
                                · exact absurd c_35 (by decide)
                                · refine v_aload_n F (pc := 218) dL_isTold_218 rfl ?_
                                  refine v_iload F (pc := 219) dL_isTold_219 rfl ?_
                                  refine v_callV F (pc := 221) (As := [.int (iI (σ 18 0))]) (rest := []) ci_L_82 ct_X4_takeOut cs_X4_takeOut (N_takeOut l g X21 (σ 18 0) hf1 hm.1 (by omega)) dL_isTold_221 (k0 := 7) rfl rfl o21 rfl rfl (Nat.le_of_ble_eq_true rfl) (Nat.le_of_ble_eq_true rfl) (Nat.le_of_ble_eq_true rfl) (Nat.le_of_ble_eq_true rfl) (Nat.le_of_ble_eq_true rfl) (fun v_ h22 hp_ => ?_) (fun _ _ z => z.elim)
                                  obtain ⟨rfl, X22⟩ := hp_
                                  obtain ⟨fs22, o22⟩ := X22.obj
                                  refine v_iload F (pc := 224) dL_isTold_224 rfl ?_
                                  refine v_icmp_ne F (pc := 226) (a := σ1 15 (σ 17 0)) (b := j) 257 dL_isTold_226 (by decide) (by omega) (by omega) (fun c_36 => ?_) (fun c_36 => ?_)
                                  · exfalso; omega
                                  · refine v_aload_n F (pc := 229) dL_isTold_229 rfl ?_
                                    refine v_iload_n F (pc := 230) dL_isTold_230 rfl ?_
                                    refine v_iload_n F (pc := 231) dL_isTold_231 rfl ?_
                                    refine v_iload_n F (pc := 232) dL_isTold_232 rfl ?_
                                    refine v_iload F (pc := 233) dL_isTold_233 rfl ?_
                                    refine v_callV F (pc := 235) (As := [.int (iI (n)), .int (iI (p)), .int (iI (w)), .int (iI (c))]) (rest := []) ci_L_70 ct_X4_roomFor cs_X4_roomFor (N_roomFor l g X22 n p w c hkd) dL_isTold_235 (k0 := 7) rfl rfl o22 rfl rfl (Nat.le_of_ble_eq_true rfl) (Nat.le_of_ble_eq_true rfl) (Nat.le_of_ble_eq_true rfl) (Nat.le_of_ble_eq_true rfl) (Nat.le_of_ble_eq_true rfl) (fun v_ h23 hp_ => ?_) (fun _ _ z => z.elim)
                                    obtain ⟨rfl, X23⟩ := hp_
                                    obtain ⟨fs23, o23⟩ := X23.obj
                                    refine v_iload F (pc := 238) dL_isTold_238 rfl ?_
                                    refine v_icmp_ne F (pc := 240) (a := rc_all (tO_s σ1 (σ 18 0)) n p w c) (b := rc_all σ n p w c) 257 dL_isTold_240 (by decide) (by omega) (by omega) (fun c_37 => ?_) (fun c_37 => ?_)
                                    · exfalso; omega
                                    · refine v_aload_n F (pc := 243) dL_isTold_243 rfl ?_
                                      refine v_iload F (pc := 244) dL_isTold_244 rfl ?_
                                      refine v_callW F (pc := 246) (n := 2) (As := [.ref x, .int (iI (σ 18 0))]) (rest := []) lm_rack lx_L lc_rack ⟨by decide, by decide, by decide +kernel⟩ ls_rack (KH_rack l g X23 (σ 18 0) (by omega)) dL_isTold_246 rfl rfl (Nat.le_of_ble_eq_true rfl) (Nat.le_of_ble_eq_true rfl) (Nat.le_of_ble_eq_true rfl) (Nat.le_of_ble_eq_true rfl) (Nat.le_of_ble_eq_true rfl) (fun v_ h24 hp_ => ?_)
                                      obtain ⟨rfl, X24⟩ := hp_
                                      obtain ⟨fs24, o24⟩ := X24.obj
                                      rw [show (if fnd_c (tO_s σ1 (σ 18 0)) (σ 18 0) = 0 then tO_s σ1 (σ 18 0) 15 (m_find (tO_s σ1 (σ 18 0)) (σ 18 0)) else (-1 : Int)) = -1 from if_neg (by omega)]
                                      refine v_iconst F (pc := 249) dL_isTold_249 ?_
                                      refine v_icmp_ne F (pc := 250) (a := -1) (b := -1) 257 dL_isTold_250 (by decide) (by omega) (by omega) (fun c_38 => ?_) (fun c_38 => ?_)
                                      · exact absurd c_38 (by decide)
                                      · refine v_iconst F (pc := 253) dL_isTold_253 ?_
                                        refine v_goto F (pc := 254) 258 dL_isTold_254 (by decide) ?_
                                        refine v_iret F (pc := 258) (z := (iI (1))) dL_isTold_258 rfl (by first | rfl | exact nar_bI _ | decide) (Nat.le_of_ble_eq_true rfl) (Nat.le_of_ble_eq_true rfl) ?_
                                        exact ⟨rfl, _, X24, hout.1, by rw [if_pos hpc]; exact hout.2.1⟩
                      · have hno : m_slotIn σ j n p w c = -1 := by
                          by_cases z : m_slotIn σ j n p w c = -1
                          · exact z
                          · rw [if_neg z] at c_30; omega
                        have hj3 : j ≠ m_prA σ n p w c := fun z => hP3 (by rw [← z]; exact hno)
                        refine v_iinc F (pc := 157) (lo' := [some (.ref x), some (.int (iI (n))), some (.int (iI (p))), some (.int (iI (w))), some (.int (iI (c))), some (.int (iI (RF σ n p w c))), some (.int (iI (rc_all σ n p w c))), some (.int (iI (σ 17 0))), some (.int (iI (1))), some (.int (iI (σ 18 0))), some (.int (iI (j + 1)))]) dL_isTold_157 rfl (Nat.le_of_ble_eq_true rfl) rfl ?_
                        refine v_goto F (pc := 160) 147 dL_isTold_160 (by decide) ?_
                        exact ih (j + 1) (by omega) (by omega)
                  exact LP147 9 0 (by omega) (by omega)
                · exfalso; omega
              · rw [show (if pl_c σ n p w c = 0 then σ 18 0 else (-3 : Int)) = -3 from if_neg hpc]
                obtain ⟨hA1, hA2⟩ := pl_not hIV.1 hkd hpc
                rw [hs1] at hA2
                have hA3 := hA2.2.1
                refine v_istore F (pc := 105) (lo' := [some (.ref x), some (.int (iI (n))), some (.int (iI (p))), some (.int (iI (w))), some (.int (iI (c))), some (.int (iI (RF σ n p w c))), some (.int (iI (rc_all σ n p w c))), some (.int (iI (σ 17 0))), some (.int (iI (1))), some (.int (iI (-3))), none]) dL_isTold_105 (Nat.le_of_ble_eq_true rfl) rfl ?_
                refine v_iload F (pc := 107) dL_isTold_107 rfl ?_
                refine v_if_ge F (pc := 109) (a := -3) 144 dL_isTold_109 (by decide) (by omega) (fun c_39 => ?_) (fun c_39 => ?_)
                · exact absurd c_39 (by decide)
                · refine v_iload F (pc := 112) dL_isTold_112 rfl ?_
                  refine v_if_eq F (pc := 114) (a := 1) 142 dL_isTold_114 (by decide) (by omega) (fun c_40 => ?_) (fun c_40 => ?_)
                  · exact absurd c_40 (by decide)
                  · refine v_iload F (pc := 117) dL_isTold_117 rfl ?_
                    refine v_if_eq F (pc := 119) (a := rc_all σ n p w c) 129 dL_isTold_119 (by decide) (by omega) (fun c_41 => ?_) (fun c_41 => ?_)
                    · refine v_aload_n F (pc := 129) dL_isTold_129 rfl ?_
                      refine v_callV F (pc := 130) (As := []) (rest := []) ci_L_41 ct_X4_machines cs_X4_machines (N_machines l g X18) dL_isTold_130 (k0 := 7) rfl rfl o18 rfl rfl (Nat.le_of_ble_eq_true rfl) (Nat.le_of_ble_eq_true rfl) (Nat.le_of_ble_eq_true rfl) (Nat.le_of_ble_eq_true rfl) (Nat.le_of_ble_eq_true rfl) (fun v_ h25 hp_ => ?_) (fun _ _ z => z.elim)
                      obtain ⟨rfl, X25⟩ := hp_
                      obtain ⟨fs25, o25⟩ := X25.obj
                      refine v_iload F (pc := 133) dL_isTold_133 rfl ?_
                      refine v_icmp_ne F (pc := 135) (a := σ1 17 0) (b := σ 17 0) 142 dL_isTold_135 (by decide) (by omega) (by omega) (fun c_42 => ?_) (fun c_42 => ?_)
                      · exfalso; omega
                      · refine v_iconst F (pc := 138) dL_isTold_138 ?_
                        refine v_goto F (pc := 139) 143 dL_isTold_139 (by decide) ?_
                        refine v_iret F (pc := 143) (z := (iI (1))) dL_isTold_143 rfl (by first | rfl | exact nar_bI _ | decide) (Nat.le_of_ble_eq_true rfl) (Nat.le_of_ble_eq_true rfl) ?_
                        exact ⟨rfl, σ1, X25, hA2.to8, by rw [if_neg hpc]; exact hA2.2.2.1⟩
                    · refine v_iload F (pc := 122) dL_isTold_122 rfl ?_
                      refine v_bipush F (pc := 124) dL_isTold_124 (by decide) ?_
                      refine v_icmp_ne F (pc := 126) (a := σ 17 0) (b := 60) 142 dL_isTold_126 (by decide) (by omega) (by omega) (fun c_43 => ?_) (fun c_43 => ?_)
                      · exfalso; omega
                      · refine v_aload_n F (pc := 129) dL_isTold_129 rfl ?_
                        refine v_callV F (pc := 130) (As := []) (rest := []) ci_L_41 ct_X4_machines cs_X4_machines (N_machines l g X18) dL_isTold_130 (k0 := 7) rfl rfl o18 rfl rfl (Nat.le_of_ble_eq_true rfl) (Nat.le_of_ble_eq_true rfl) (Nat.le_of_ble_eq_true rfl) (Nat.le_of_ble_eq_true rfl) (Nat.le_of_ble_eq_true rfl) (fun v_ h26 hp_ => ?_) (fun _ _ z => z.elim)
                        obtain ⟨rfl, X26⟩ := hp_
                        obtain ⟨fs26, o26⟩ := X26.obj
                        refine v_iload F (pc := 133) dL_isTold_133 rfl ?_
                        refine v_icmp_ne F (pc := 135) (a := σ1 17 0) (b := σ 17 0) 142 dL_isTold_135 (by decide) (by omega) (by omega) (fun c_44 => ?_) (fun c_44 => ?_)
                        · exfalso; omega
                        · refine v_iconst F (pc := 138) dL_isTold_138 ?_
                          refine v_goto F (pc := 139) 143 dL_isTold_139 (by decide) ?_
                          refine v_iret F (pc := 143) (z := (iI (1))) dL_isTold_143 rfl (by first | rfl | exact nar_bI _ | decide) (Nat.le_of_ble_eq_true rfl) (Nat.le_of_ble_eq_true rfl) ?_
                          exact ⟨rfl, σ1, X26, hA2.to8, by rw [if_neg hpc]; exact hA2.2.2.1⟩
