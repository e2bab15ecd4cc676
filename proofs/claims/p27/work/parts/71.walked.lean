/-! ===== the law: isWalked ===== -/
-- L_isWalked
set_option maxRecDepth 100000 in
set_option maxHeartbeats 8000000 in
theorem KL_isWalked (l : Launch) (g : gT) {x a : Nat} {h : fH} {σ : sT} {kf : fH} {F0_ : Int → Int} (hX : SL g x h σ kf) (hk : kf a = some (iar (g.2.1 0) 8 F0_)) (hF : ∀ r, 0 ≤ r → r < σ 5 0 → F0_ r = σ 2 r) : CM l g yL_isWalked cL_isWalked 11 (some .boolean) ({ frames := 13, cells := 1620, slots := 9720, locals := 205 }) [.ref x, .ref a] (h) (fun v h1 => v = some (.int (iI 1)) ∧ SL g x h1 σ kf) (noX) := by
  refine CM.of (lo := [some (.ref x), some (.ref a), none, none, none, none, none, none, none, none, none]) (by decide) (Nat.le_of_ble_eq_true rfl) (by simp [Value.category]) rfl ?_
  intro pX eX sX mX bX tX cX AX F htab hmn
  have F : Fx pX l sX mX ([.ref x, .ref a] : List Value).toArray tX cX cL_isWalked 11 (some .boolean) RL g AX := F
  have hIV := hX.iv
  have hm := mb_nm hIV.1
  have hn := mb_nr hIV.1
  obtain ⟨fsi, oi⟩ := hX.obj
  refine v_iconst F (pc := 0) dL_isWalked_0 ?_
  refine v_istore_n F (pc := 1) (lo' := [some (.ref x), some (.ref a), some (.int (iI (0))), none, none, none, none, none, none, none, none]) dL_isWalked_1 (Nat.le_of_ble_eq_true rfl) rfl ?_
  refine v_iconst F (pc := 2) dL_isWalked_2 ?_
  refine v_istore_n F (pc := 3) (lo' := [some (.ref x), some (.ref a), some (.int (iI (0))), some (.int (iI (-1))), none, none, none, none, none, none, none]) dL_isWalked_3 (Nat.le_of_ble_eq_true rfl) rfl ?_
  refine v_iconst F (pc := 4) dL_isWalked_4 ?_
  refine v_istore F (pc := 5) (lo' := [some (.ref x), some (.ref a), some (.int (iI (0))), some (.int (iI (-1))), some (.int (iI (1))), none, none, none, none, none, none]) dL_isWalked_5 (Nat.le_of_ble_eq_true rfl) rfl ?_
  refine v_aload_n F (pc := 7) dL_isWalked_7 rfl ?_
  refine v_iconst F (pc := 8) dL_isWalked_8 ?_
  refine v_callV F (pc := 9) (As := [.int (iI (-1))]) (rest := []) ci_L_32 ct_X4_next cs_X4_next (N_next0 l g hX) dL_isWalked_9 (k0 := 7) rfl rfl oi rfl rfl (Nat.le_of_ble_eq_true rfl) (Nat.le_of_ble_eq_true rfl) (Nat.le_of_ble_eq_true rfl) (Nat.le_of_ble_eq_true rfl) (Nat.le_of_ble_eq_true rfl) (fun v_ h1 hp_ => ?_) (fun _ _ z => z.elim)
  obtain ⟨rfl, X1⟩ := hp_
  obtain ⟨fs1, o1⟩ := X1.obj
  refine v_istore F (pc := 12) (lo' := [some (.ref x), some (.ref a), some (.int (iI (0))), some (.int (iI (-1))), some (.int (iI (1))), some (.int (iI (nxt σ (-1)))), none, none, none, none, none]) dL_isWalked_12 (Nat.le_of_ble_eq_true rfl) rfl ?_
  have LP14 : ∀ (N_ : Nat) (hq : fH) (bh : Int) (cl : Nat) (sl : Nat), (SL g x hq σ kf) → (-1 ≤ bh ∧ bh < 160) → (cl + 7 * N_ ≤ 440) → (sl + 42 * N_ ≤ 2640) → (σ 17 0 - cw σ (bh + 1)).toNat < N_ → VE pX l eX ({ frames := 13, cells := 1620, slots := 9720, locals := 205 }) sX mX ([.ref x, .ref a] : List Value).toArray bX tX cX 11 g AX (hq) cl sl 14 [some (.ref x), some (.ref a), some (.int (iI (cw σ (bh + 1)))), some (.int (iI (bh))), some (.int (iI (1))), some (.int (iI (nxt σ bh))), none, none, none, none, none] [] (fun v h1 => v = some (.int (iI 1)) ∧ SL g x h1 σ kf) (noX) 1620 9720 := by
    intro N_
    induction N_ with
    | zero => intro hq bh cl sl _ _ _ _ hm_; exact absurd hm_ (Nat.not_lt_zero _)
    | succ N_ ih =>
      intro hq bh cl sl Xq hb hcl hsl hm_
      obtain ⟨fsq, oq⟩ := Xq.obj
      have hcr := cw_rng hIV (bh + 1)
      rcases nxt_cases hIV bh with ⟨e1, e2⟩ | ⟨K, k0, k1, e1, e2, e3⟩
      · rw [e1]
        have hall : cw σ (bh + 1) = σ 17 0 := cw_all hIV (fun k a b => by have := e2 k a b; omega)
        refine v_iload F (pc := 14) dL_isWalked_14 rfl ?_
        refine v_if_lt F (pc := 16) (a := -1) 99 dL_isWalked_16 (by decide) (by omega) (fun c_1 => ?_) (fun c_1 => ?_)
        · rw [hall]
          refine v_iload F (pc := 99) dL_isWalked_99 rfl ?_
          refine v_if_eq F (pc := 101) (a := 1) 116 dL_isWalked_101 (by decide) (by omega) (fun c_2 => ?_) (fun c_2 => ?_)
          · exact absurd c_2 (by decide)
          · refine v_iload_n F (pc := 104) dL_isWalked_104 rfl ?_
            refine v_aload_n F (pc := 105) dL_isWalked_105 rfl ?_
            refine v_callV F (pc := 106) (As := []) (rest := [.int (iI (σ 17 0))]) ci_L_41 ct_X4_machines cs_X4_machines (N_machines l g Xq) dL_isWalked_106 (k0 := 7) rfl rfl oq rfl rfl (Nat.le_of_ble_eq_true rfl) (Nat.le_of_ble_eq_true rfl) (Nat.le_of_ble_eq_true rfl) (show cl + 0 ≤ 1620 by omega) (show sl + 0 ≤ 9720 by omega) (fun v_ h2 hp_ => ?_) (fun _ _ z => z.elim)
            obtain ⟨rfl, X2⟩ := hp_
            obtain ⟨fs2, o2⟩ := X2.obj
            refine v_icmp_ne F (pc := 109) (a := σ 17 0) (b := σ 17 0) 116 dL_isWalked_109 (by decide) (by omega) (by omega) (fun c_3 => ?_) (fun c_3 => ?_)
            · exfalso; omega
            · refine v_iconst F (pc := 112) dL_isWalked_112 ?_
              refine v_goto F (pc := 113) 117 dL_isWalked_113 (by decide) ?_
              refine v_istore F (pc := 117) (lo' := [some (.ref x), some (.ref a), some (.int (iI (σ 17 0))), some (.int (iI (bh))), some (.int (iI (1))), some (.int (iI (-1))), none, none, none, none, none]) dL_isWalked_117 (Nat.le_of_ble_eq_true rfl) rfl ?_
              refine v_iconst F (pc := 119) dL_isWalked_119 ?_
              refine v_istore F (pc := 120) (lo' := [some (.ref x), some (.ref a), some (.int (iI (σ 17 0))), some (.int (iI (bh))), some (.int (iI (1))), some (.int (iI (0))), none, none, none, none, none]) dL_isWalked_120 (Nat.le_of_ble_eq_true rfl) rfl ?_
              refine v_iconst F (pc := 122) dL_isWalked_122 ?_
              refine v_istore F (pc := 123) (lo' := [some (.ref x), some (.ref a), some (.int (iI (σ 17 0))), some (.int (iI (bh))), some (.int (iI (1))), some (.int (iI (0))), some (.int (iI (0))), none, none, none, none]) dL_isWalked_123 (Nat.le_of_ble_eq_true rfl) rfl ?_
              have LP125 : ∀ (N2_ : Nat) (hq2 : fH) (r : Int) (cl2 : Nat) (sl2 : Nat), (SL g x hq2 σ kf) → (0 ≤ r ∧ r ≤ σ 5 0) → (cl2 + 130 * N2_ ≤ 1620) → (sl2 + 780 * N2_ ≤ 9720) → (σ 5 0 - r).toNat < N2_ → VE pX l eX ({ frames := 13, cells := 1620, slots := 9720, locals := 205 }) sX mX ([.ref x, .ref a] : List Value).toArray bX tX cX 11 g AX (hq2) cl2 sl2 125 [some (.ref x), some (.ref a), some (.int (iI (σ 17 0))), none, some (.int (iI (1))), some (.int (iI (cw σ (20 * r)))), some (.int (iI (r))), none, none, none, none] [] (fun v h1 => v = some (.int (iI 1)) ∧ SL g x h1 σ kf) (noX) 1620 9720 := by
                intro N2_
                induction N2_ with
                | zero => intro hq2 r cl2 sl2 _ _ _ _ hm_; exact absurd hm_ (Nat.not_lt_zero _)
                | succ N2_ ih2 =>
                  intro hq2 r cl2 sl2 Xq2 hr hcl2 hsl2 hm2_
                  obtain ⟨fsq2, oq2⟩ := Xq2.obj
                  have hcr2 := cw_rng hIV (20 * r)
                  have hsl := fun (z : r < σ 5 0) => lk_slots hIV.1 hr.1 (by omega)
                  refine v_iload F (pc := 125) dL_isWalked_125 rfl ?_
                  refine v_aload_n F (pc := 127) dL_isWalked_127 rfl ?_
                  refine v_callV F (pc := 128) (As := []) (rest := [.int (iI (r))]) ci_L_45 ct_X4_racks cs_X4_racks (N_racks l g Xq2) dL_isWalked_128 (k0 := 7) rfl rfl oq2 rfl rfl (Nat.le_of_ble_eq_true rfl) (Nat.le_of_ble_eq_true rfl) (Nat.le_of_ble_eq_true rfl) (show cl2 + 0 ≤ 1620 by omega) (show sl2 + 0 ≤ 9720 by omega) (fun v_ h3 hp_ => ?_) (fun _ _ z => z.elim)
                  obtain ⟨rfl, X3⟩ := hp_
                  obtain ⟨fs3, o3⟩ := X3.obj
                  refine v_icmp_ge F (pc := 131) (a := r) (b := σ 5 0) 312 dL_isWalked_131 (by decide) (by omega) (by omega) (fun c_4 => ?_) (fun c_4 => ?_)
                  · refine v_iload F (pc := 312) dL_isWalked_312 rfl ?_
                    refine v_if_eq F (pc := 314) (a := 1) 327 dL_isWalked_314 (by decide) (by omega) (fun c_5 => ?_) (fun c_5 => ?_)
                    · exact absurd c_5 (by decide)
                    · refine v_iload F (pc := 317) dL_isWalked_317 rfl ?_
                      refine v_iload_n F (pc := 319) dL_isWalked_319 rfl ?_
                      refine v_icmp_ne F (pc := 320) (a := cw σ (20 * r)) (b := σ 17 0) 327 dL_isWalked_320 (by decide) (by omega) (by omega) (fun c_6 => ?_) (fun c_6 => ?_)
                      · exact absurd (cw_all hIV (t := 20 * r) (fun k a b => by have := hIV.mach a b; omega)) c_6
                      · refine v_iconst F (pc := 323) dL_isWalked_323 ?_
                        refine v_goto F (pc := 324) 328 dL_isWalked_324 (by decide) ?_
                        refine v_iret F (pc := 328) (z := (iI (1))) dL_isWalked_328 rfl (by first | rfl | exact nar_bI _ | decide) (show cl2 ≤ 1620 by omega) (show sl2 ≤ 9720 by omega) ?_
                        exact ⟨rfl, X3⟩
                  · have hsl2_ := hsl (by omega)
                    refine v_iload F (pc := 134) dL_isWalked_134 rfl ?_
                    refine v_if_eq F (pc := 136) (a := 1) 312 dL_isWalked_136 (by decide) (by omega) (fun c_7 => ?_) (fun c_7 => ?_)
                    · exact absurd c_7 (by decide)
                    · refine v_iconst F (pc := 139) dL_isWalked_139 ?_
                      refine v_istore F (pc := 140) (lo' := [some (.ref x), some (.ref a), some (.int (iI (σ 17 0))), none, some (.int (iI (1))), some (.int (iI (cw σ (20 * r)))), some (.int (iI (r))), some (.int (iI (0))), none, none, none]) dL_isWalked_140 (Nat.le_of_ble_eq_true rfl) rfl ?_
                      refine v_iconst F (pc := 142) dL_isWalked_142 ?_
                      refine v_istore F (pc := 143) (lo' := [some (.ref x), some (.ref a), some (.int (iI (σ 17 0))), none, some (.int (iI (1))), some (.int (iI (cw σ (20 * r)))), some (.int (iI (r))), some (.int (iI (0))), some (.int (iI (0))), none, none]) dL_isWalked_143 (Nat.le_of_ble_eq_true rfl) rfl ?_
                      refine v_iconst F (pc := 145) dL_isWalked_145 ?_
                      refine v_istore F (pc := 146) (lo' := [some (.ref x), some (.ref a), some (.int (iI (σ 17 0))), none, some (.int (iI (1))), some (.int (iI (cw σ (20 * r)))), some (.int (iI (r))), some (.int (iI (0))), some (.int (iI (0))), some (.int (iI (0))), none]) dL_isWalked_146 (Nat.le_of_ble_eq_true rfl) rfl ?_
                      have LP148 : ∀ (N3_ : Nat) (hq3 : fH) (s : Int) (cl3 : Nat) (sl3 : Nat), (SL g x hq3 σ kf) → (0 ≤ s ∧ s ≤ σ 2 r) → (cl3 + 6 * N3_ ≤ cl2 + 128) → (sl3 + 36 * N3_ ≤ sl2 + 768) → (σ 2 r - s).toNat < N3_ → VE pX l eX ({ frames := 13, cells := 1620, slots := 9720, locals := 205 }) sX mX ([.ref x, .ref a] : List Value).toArray bX tX cX 11 g AX (hq3) cl3 sl3 148 [some (.ref x), some (.ref a), some (.int (iI (σ 17 0))), none, some (.int (iI (1))), some (.int (iI (cw σ (20 * r + s)))), some (.int (iI (r))), some (.int (iI (fr (m_fe σ r) s))), some (.int (iI (gp (m_fe σ r) s))), some (.int (iI (s))), none] [] (fun v h1 => v = some (.int (iI 1)) ∧ SL g x h1 σ kf) (noX) 1620 9720 := by
                        intro N3_
                        induction N3_ with
                        | zero => intro hq3 s cl3 sl3 _ _ _ _ hm_; exact absurd hm_ (Nat.not_lt_zero _)
                        | succ N3_ ih3 =>
                          intro hq3 s cl3 sl3 Xq3 hs hcl3 hsl3 hm3_
                          obtain ⟨fsq3, oq3⟩ := Xq3.obj
                          have hcr3 := cw_rng hIV (20 * r + s)
                          have hfr0 := fr_rng (m_fe σ r) hs.1
                          have hgp0 := gp_rng (m_fe σ r) hs.1
                          refine v_iload F (pc := 148) dL_isWalked_148 rfl ?_
                          refine v_aload_n F (pc := 150) dL_isWalked_150 rfl ?_
                          refine v_iload F (pc := 151) dL_isWalked_151 rfl ?_
                          refine v_iald F (pc := 153) (n := 8) (f := F0_) (z := r) dL_isWalked_153 (Xq3.cel hk) (by omega) (by decide) ?_
                          rw [hF r hr.1 (by omega)]
                          refine v_icmp_ge F (pc := 154) (a := s) (b := σ 2 r) 283 dL_isWalked_154 (by decide) (by omega) (by omega) (fun c_8 => ?_) (fun c_8 => ?_)
                          · refine v_iload F (pc := 283) dL_isWalked_283 rfl ?_
                            refine v_if_eq F (pc := 285) (a := 1) 303 dL_isWalked_285 (by decide) (by omega) (fun c_9 => ?_) (fun c_9 => ?_)
                            · exact absurd c_9 (by decide)
                            · refine v_aload_n F (pc := 288) dL_isWalked_288 rfl ?_
                              refine v_iload F (pc := 289) dL_isWalked_289 rfl ?_
                              refine v_callV F (pc := 291) (As := [.int (iI (r))]) (rest := []) ci_L_48 ct_X4_gap cs_X4_gap (N_gap l g Xq3 r (by omega)) dL_isWalked_291 (k0 := 7) rfl rfl oq3 rfl rfl (Nat.le_of_ble_eq_true rfl) (Nat.le_of_ble_eq_true rfl) (Nat.le_of_ble_eq_true rfl) (show cl3 + 1 ≤ 1620 by omega) (show sl3 + 6 ≤ 9720 by omega) (fun v_ h4 hp_ => ?_) (fun _ _ z => z.elim)
                              obtain ⟨rfl, X4⟩ := hp_
                              obtain ⟨fs4, o4⟩ := X4.obj
                              have hgr := m_gap_rng σ r (s := σ 2 r) (by omega)
                              have hg : (m_gap σ r (σ 2 r)).1 = gp (m_fe σ r) s := by rw [show s = σ 2 r by omega, m_gap_eq _ _ (by omega)]
                              refine v_iload F (pc := 294) dL_isWalked_294 rfl ?_
                              refine v_icmp_ne F (pc := 296) (a := (m_gap σ r (σ 2 r)).1) (b := gp (m_fe σ r) s) 303 dL_isWalked_296 (by decide) (by omega) (by omega) (fun c_10 => ?_) (fun c_10 => ?_)
                              · exfalso; omega
                              · refine v_iconst F (pc := 299) dL_isWalked_299 ?_
                                refine v_goto F (pc := 300) 304 dL_isWalked_300 (by decide) ?_
                                refine v_istore F (pc := 304) (lo' := [some (.ref x), some (.ref a), some (.int (iI (σ 17 0))), none, some (.int (iI (1))), some (.int (iI (cw σ (20 * r + s)))), some (.int (iI (r))), some (.int (iI (fr (m_fe σ r) s))), some (.int (iI (gp (m_fe σ r) s))), some (.int (iI (s))), none]) dL_isWalked_304 (Nat.le_of_ble_eq_true rfl) rfl ?_
                                refine v_iinc F (pc := 306) (lo' := [some (.ref x), some (.ref a), some (.int (iI (σ 17 0))), none, some (.int (iI (1))), some (.int (iI (cw σ (20 * r + s)))), some (.int (iI (r + 1))), some (.int (iI (fr (m_fe σ r) s))), some (.int (iI (gp (m_fe σ r) s))), some (.int (iI (s))), none]) dL_isWalked_306 rfl (Nat.le_of_ble_eq_true rfl) rfl ?_
                                refine v_goto F (pc := 309) 125 dL_isWalked_309 (by decide) ?_
                                rw [show cw σ (20 * r + s) = cw σ (20 * (r + 1)) from by rw [show s = σ 2 r by omega]; exact cw_rack hIV ⟨hr.1, by omega⟩]
                                exact V.fg (ih2 h4 (r + 1) (cl3 + 1) (sl3 + 6) X4 (by omega) (by omega) (by omega) (by omega)) ⟨rfl, ⟨rfl, ⟨rfl, ⟨rfl, ⟨rfl, ⟨rfl, trivial⟩⟩⟩⟩⟩⟩
                          · refine v_iload F (pc := 157) dL_isWalked_157 rfl ?_
                            refine v_if_eq F (pc := 159) (a := 1) 283 dL_isWalked_159 (by decide) (by omega) (fun c_11 => ?_) (fun c_11 => ?_)
                            · exact absurd c_11 (by decide)
                            · refine v_aload_n F (pc := 162) dL_isWalked_162 rfl ?_
                              refine v_iload F (pc := 163) dL_isWalked_163 rfl ?_
                              refine v_iload F (pc := 165) dL_isWalked_165 rfl ?_
                              refine v_callV F (pc := 167) (As := [.int (iI (r)), .int (iI (s))]) (rest := []) ci_L_38 ct_X4_machineAt cs_X4_machineAt (N_machineAt l g Xq3 r s (by omega) (by omega)) dL_isWalked_167 (k0 := 7) rfl rfl oq3 rfl rfl (Nat.le_of_ble_eq_true rfl) (Nat.le_of_ble_eq_true rfl) (Nat.le_of_ble_eq_true rfl) (show cl3 + 2 ≤ 1620 by omega) (show sl3 + 12 ≤ 9720 by omega) (fun v_ h5 hp_ => ?_) (fun _ _ z => z.elim)
                              obtain ⟨rfl, X5⟩ := hp_
                              obtain ⟨fs5, o5⟩ := X5.obj
                              by_cases e1 : m_inSlot σ r s = -1
                              · have hm1 : mAt σ r s = -1 := if_pos e1
                                rw [hm1]
                                have hfr : fr (m_fe σ r) (s + 1) = fr (m_fe σ r) s + 1 := by rw [fr_s _ hs.1]; exact if_pos (decide_eq_true e1)
                                refine v_istore F (pc := 170) (lo' := [some (.ref x), some (.ref a), some (.int (iI (σ 17 0))), none, some (.int (iI (1))), some (.int (iI (cw σ (20 * r + s)))), some (.int (iI (r))), some (.int (iI (fr (m_fe σ r) s))), some (.int (iI (gp (m_fe σ r) s))), some (.int (iI (s))), some (.int (iI (-1)))]) dL_isWalked_170 (Nat.le_of_ble_eq_true rfl) rfl ?_
                                refine v_iload F (pc := 172) dL_isWalked_172 rfl ?_
                                refine v_if_ge F (pc := 174) (a := -1) 184 dL_isWalked_174 (by decide) (by omega) (fun c_12 => ?_) (fun c_12 => ?_)
                                · exact absurd c_12 (by decide)
                                · refine v_iload F (pc := 177) dL_isWalked_177 rfl ?_
                                  refine v_iconst F (pc := 179) dL_isWalked_179 ?_
                                  refine v_iadd F (pc := 180) (a := fr (m_fe σ r) s) (b := 1) dL_isWalked_180 ?_
                                  refine v_goto F (pc := 181) 185 dL_isWalked_181 (by decide) ?_
                                  refine v_istore F (pc := 185) (lo' := [some (.ref x), some (.ref a), some (.int (iI (σ 17 0))), none, some (.int (iI (1))), some (.int (iI (cw σ (20 * r + s)))), some (.int (iI (r))), some (.int (iI ((fr (m_fe σ r) s) + 1))), some (.int (iI (gp (m_fe σ r) s))), some (.int (iI (s))), some (.int (iI (-1)))]) dL_isWalked_185 (Nat.le_of_ble_eq_true rfl) rfl ?_
                                  refine v_iload F (pc := 187) dL_isWalked_187 rfl ?_
                                  refine v_iload F (pc := 189) dL_isWalked_189 rfl ?_
                                  refine v_icmp_le F (pc := 191) (a := (fr (m_fe σ r) s) + 1) (b := gp (m_fe σ r) s) 199 dL_isWalked_191 (by decide) (by omega) (by omega) (fun c_13 => ?_) (fun c_13 => ?_)
                                  · refine v_iload F (pc := 199) dL_isWalked_199 rfl ?_
                                    refine v_istore F (pc := 201) (lo' := [some (.ref x), some (.ref a), some (.int (iI (σ 17 0))), none, some (.int (iI (1))), some (.int (iI (cw σ (20 * r + s)))), some (.int (iI (r))), some (.int (iI ((fr (m_fe σ r) s) + 1))), some (.int (iI (gp (m_fe σ r) s))), some (.int (iI (s))), some (.int (iI (-1)))]) dL_isWalked_201 (Nat.le_of_ble_eq_true rfl) rfl ?_
                                    refine v_iload F (pc := 203) dL_isWalked_203 rfl ?_
                                    refine v_if_lt F (pc := 205) (a := -1) 244 dL_isWalked_205 (by decide) (by omega) (fun c_14 => ?_) (fun c_14 => ?_)
                                    · refine v_iconst F (pc := 244) dL_isWalked_244 ?_
                                      refine v_goto F (pc := 245) 249 dL_isWalked_245 (by decide) ?_
                                      refine v_istore F (pc := 249) (lo' := [some (.ref x), some (.ref a), some (.int (iI (σ 17 0))), none, some (.int (iI (1))), some (.int (iI (cw σ (20 * r + s)))), some (.int (iI (r))), some (.int (iI ((fr (m_fe σ r) s) + 1))), some (.int (iI (gp (m_fe σ r) s))), some (.int (iI (s))), some (.int (iI (-1)))]) dL_isWalked_249 (Nat.le_of_ble_eq_true rfl) rfl ?_
                                      refine v_iload F (pc := 251) dL_isWalked_251 rfl ?_
                                      refine v_iload F (pc := 253) dL_isWalked_253 rfl ?_
                                      refine v_if_lt F (pc := 255) (a := -1) 273 dL_isWalked_255 (by decide) (by omega) (fun c_15 => ?_) (fun c_15 => ?_)
                                      · refine v_iconst F (pc := 273) dL_isWalked_273 ?_
                                        refine v_iadd F (pc := 274) (a := cw σ (20 * r + s)) (b := 0) dL_isWalked_274 ?_
                                        refine v_istore F (pc := 275) (lo' := [some (.ref x), some (.ref a), some (.int (iI (σ 17 0))), none, some (.int (iI (1))), some (.int (iI ((cw σ (20 * r + s)) + 0))), some (.int (iI (r))), some (.int (iI ((fr (m_fe σ r) s) + 1))), some (.int (iI (gp (m_fe σ r) s))), some (.int (iI (s))), some (.int (iI (-1)))]) dL_isWalked_275 (Nat.le_of_ble_eq_true rfl) rfl ?_
                                        refine v_iinc F (pc := 277) (lo' := [some (.ref x), some (.ref a), some (.int (iI (σ 17 0))), none, some (.int (iI (1))), some (.int (iI ((cw σ (20 * r + s)) + 0))), some (.int (iI (r))), some (.int (iI ((fr (m_fe σ r) s) + 1))), some (.int (iI (gp (m_fe σ r) s))), some (.int (iI (s + 1))), some (.int (iI (-1)))]) dL_isWalked_277 rfl (Nat.le_of_ble_eq_true rfl) rfl ?_
                                        refine v_goto F (pc := 280) 148 dL_isWalked_280 (by decide) ?_
                                        have k := ih3 h5 (s + 1) (cl3 + 2) (sl3 + 12) X5 (by omega) (by omega) (by omega) (by omega)
                                        have q1 : cw σ (20 * r + (s + 1)) = (cw σ (20 * r + s)) + 0 := by rw [← Int.add_assoc]; exact (by rw [Int.add_zero]; exact slot_miss hIV hr.1 (by omega) e1)
                                        have q2 : fr (m_fe σ r) (s + 1) = (fr (m_fe σ r) s) + 1 := hfr
                                        have q3 : gp (m_fe σ r) (s + 1) = gp (m_fe σ r) s := by rw [gp_s _ hs.1, hfr]; omega
                                        rw [q1, q2, q3] at k
                                        exact V.fg (k) ⟨rfl, ⟨rfl, ⟨rfl, ⟨rfl, ⟨rfl, ⟨rfl, ⟨rfl, ⟨rfl, ⟨rfl, trivial⟩⟩⟩⟩⟩⟩⟩⟩⟩
                                      · exact absurd c_15 (by decide)
                                    · exact absurd c_14 (by decide)
                                  · refine v_iload F (pc := 194) dL_isWalked_194 rfl ?_
                                    refine v_goto F (pc := 196) 201 dL_isWalked_196 (by decide) ?_
                                    refine v_istore F (pc := 201) (lo' := [some (.ref x), some (.ref a), some (.int (iI (σ 17 0))), none, some (.int (iI (1))), some (.int (iI (cw σ (20 * r + s)))), some (.int (iI (r))), some (.int (iI ((fr (m_fe σ r) s) + 1))), some (.int (iI ((fr (m_fe σ r) s) + 1))), some (.int (iI (s))), some (.int (iI (-1)))]) dL_isWalked_201 (Nat.le_of_ble_eq_true rfl) rfl ?_
                                    refine v_iload F (pc := 203) dL_isWalked_203 rfl ?_
                                    refine v_if_lt F (pc := 205) (a := -1) 244 dL_isWalked_205 (by decide) (by omega) (fun c_16 => ?_) (fun c_16 => ?_)
                                    · refine v_iconst F (pc := 244) dL_isWalked_244 ?_
                                      refine v_goto F (pc := 245) 249 dL_isWalked_245 (by decide) ?_
                                      refine v_istore F (pc := 249) (lo' := [some (.ref x), some (.ref a), some (.int (iI (σ 17 0))), none, some (.int (iI (1))), some (.int (iI (cw σ (20 * r + s)))), some (.int (iI (r))), some (.int (iI ((fr (m_fe σ r) s) + 1))), some (.int (iI ((fr (m_fe σ r) s) + 1))), some (.int (iI (s))), some (.int (iI (-1)))]) dL_isWalked_249 (Nat.le_of_ble_eq_true rfl) rfl ?_
                                      refine v_iload F (pc := 251) dL_isWalked_251 rfl ?_
                                      refine v_iload F (pc := 253) dL_isWalked_253 rfl ?_
                                      refine v_if_lt F (pc := 255) (a := -1) 273 dL_isWalked_255 (by decide) (by omega) (fun c_17 => ?_) (fun c_17 => ?_)
                                      · refine v_iconst F (pc := 273) dL_isWalked_273 ?_
                                        refine v_iadd F (pc := 274) (a := cw σ (20 * r + s)) (b := 0) dL_isWalked_274 ?_
                                        refine v_istore F (pc := 275) (lo' := [some (.ref x), some (.ref a), some (.int (iI (σ 17 0))), none, some (.int (iI (1))), some (.int (iI ((cw σ (20 * r + s)) + 0))), some (.int (iI (r))), some (.int (iI ((fr (m_fe σ r) s) + 1))), some (.int (iI ((fr (m_fe σ r) s) + 1))), some (.int (iI (s))), some (.int (iI (-1)))]) dL_isWalked_275 (Nat.le_of_ble_eq_true rfl) rfl ?_
                                        refine v_iinc F (pc := 277) (lo' := [some (.ref x), some (.ref a), some (.int (iI (σ 17 0))), none, some (.int (iI (1))), some (.int (iI ((cw σ (20 * r + s)) + 0))), some (.int (iI (r))), some (.int (iI ((fr (m_fe σ r) s) + 1))), some (.int (iI ((fr (m_fe σ r) s) + 1))), some (.int (iI (s + 1))), some (.int (iI (-1)))]) dL_isWalked_277 rfl (Nat.le_of_ble_eq_true rfl) rfl ?_
                                        refine v_goto F (pc := 280) 148 dL_isWalked_280 (by decide) ?_
                                        have k := ih3 h5 (s + 1) (cl3 + 2) (sl3 + 12) X5 (by omega) (by omega) (by omega) (by omega)
                                        have q1 : cw σ (20 * r + (s + 1)) = (cw σ (20 * r + s)) + 0 := by rw [← Int.add_assoc]; exact (by rw [Int.add_zero]; exact slot_miss hIV hr.1 (by omega) e1)
                                        have q2 : fr (m_fe σ r) (s + 1) = (fr (m_fe σ r) s) + 1 := hfr
                                        have q3 : gp (m_fe σ r) (s + 1) = (fr (m_fe σ r) s) + 1 := by rw [gp_s _ hs.1, hfr]; omega
                                        rw [q1, q2, q3] at k
                                        exact V.fg (k) ⟨rfl, ⟨rfl, ⟨rfl, ⟨rfl, ⟨rfl, ⟨rfl, ⟨rfl, ⟨rfl, ⟨rfl, trivial⟩⟩⟩⟩⟩⟩⟩⟩⟩
                                      · exact absurd c_17 (by decide)
                                    · exact absurd c_16 (by decide)
                              · obtain ⟨K, eK0, k0, k1, eK, es1, es2, hm1⟩ := slot_in hIV e1
                                rw [hm1]
                                have hK := hIV.mach k0 k1
                                have hfr : fr (m_fe σ r) (s + 1) = 0 := by rw [fr_s _ hs.1]; exact if_neg (by unfold m_fe; rw [decide_eq_true_eq]; exact e1)
                                refine v_istore F (pc := 170) (lo' := [some (.ref x), some (.ref a), some (.int (iI (σ 17 0))), none, some (.int (iI (1))), some (.int (iI (cw σ (20 * r + s)))), some (.int (iI (r))), some (.int (iI (fr (m_fe σ r) s))), some (.int (iI (gp (m_fe σ r) s))), some (.int (iI (s))), some (.int (iI (σ 10 K)))]) dL_isWalked_170 (Nat.le_of_ble_eq_true rfl) rfl ?_
                                refine v_iload F (pc := 172) dL_isWalked_172 rfl ?_
                                refine v_if_ge F (pc := 174) (a := σ 10 K) 184 dL_isWalked_174 (by decide) (by omega) (fun c_18 => ?_) (fun c_18 => ?_)
                                · refine v_iconst F (pc := 184) dL_isWalked_184 ?_
                                  refine v_istore F (pc := 185) (lo' := [some (.ref x), some (.ref a), some (.int (iI (σ 17 0))), none, some (.int (iI (1))), some (.int (iI (cw σ (20 * r + s)))), some (.int (iI (r))), some (.int (iI (0))), some (.int (iI (gp (m_fe σ r) s))), some (.int (iI (s))), some (.int (iI (σ 10 K)))]) dL_isWalked_185 (Nat.le_of_ble_eq_true rfl) rfl ?_
                                  refine v_iload F (pc := 187) dL_isWalked_187 rfl ?_
                                  refine v_iload F (pc := 189) dL_isWalked_189 rfl ?_
                                  refine v_icmp_le F (pc := 191) (a := 0) (b := gp (m_fe σ r) s) 199 dL_isWalked_191 (by decide) (by omega) (by omega) (fun c_19 => ?_) (fun c_19 => ?_)
                                  · refine v_iload F (pc := 199) dL_isWalked_199 rfl ?_
                                    refine v_istore F (pc := 201) (lo' := [some (.ref x), some (.ref a), some (.int (iI (σ 17 0))), none, some (.int (iI (1))), some (.int (iI (cw σ (20 * r + s)))), some (.int (iI (r))), some (.int (iI (0))), some (.int (iI (gp (m_fe σ r) s))), some (.int (iI (s))), some (.int (iI (σ 10 K)))]) dL_isWalked_201 (Nat.le_of_ble_eq_true rfl) rfl ?_
                                    refine v_iload F (pc := 203) dL_isWalked_203 rfl ?_
                                    refine v_if_lt F (pc := 205) (a := σ 10 K) 244 dL_isWalked_205 (by decide) (by omega) (fun c_20 => ?_) (fun c_20 => ?_)
                                    · exfalso; omega
                                    · refine v_aload_n F (pc := 208) dL_isWalked_208 rfl ?_
                                      refine v_iload F (pc := 209) dL_isWalked_209 rfl ?_
                                      refine v_callV F (pc := 211) (As := [.int (iI (σ 10 K))]) (rest := []) ci_L_26 ct_X4_rackOf cs_X4_rackOf (N_rackOf l g X5 (σ 10 K) hK.2.2.2.2.2.2.1 k0 (by omega)) dL_isWalked_211 (k0 := 7) rfl rfl o5 rfl rfl (Nat.le_of_ble_eq_true rfl) (Nat.le_of_ble_eq_true rfl) (Nat.le_of_ble_eq_true rfl) (show cl3 + 2 + 1 ≤ 1620 by omega) (show sl3 + 12 + 6 ≤ 9720 by omega) (fun v_ h6 hp_ => ?_) (fun _ _ z => z.elim)
                                      obtain ⟨rfl, X6⟩ := hp_
                                      obtain ⟨fs6, o6⟩ := X6.obj
                                      refine v_iload F (pc := 214) dL_isWalked_214 rfl ?_
                                      refine v_icmp_ne F (pc := 216) (a := σ 15 K) (b := r) 248 dL_isWalked_216 (by decide) (by omega) (by omega) (fun c_21 => ?_) (fun c_21 => ?_)
                                      · exfalso; omega
                                      · refine v_aload_n F (pc := 219) dL_isWalked_219 rfl ?_
                                        refine v_iload F (pc := 220) dL_isWalked_220 rfl ?_
                                        refine v_callV F (pc := 222) (As := [.int (iI (σ 10 K))]) (rest := []) ci_L_35 ct_X4_slotOf cs_X4_slotOf (N_slotOf l g X6 (σ 10 K) hK.2.2.2.2.2.2.1 k0 (by omega)) dL_isWalked_222 (k0 := 7) rfl rfl o6 rfl rfl (Nat.le_of_ble_eq_true rfl) (Nat.le_of_ble_eq_true rfl) (Nat.le_of_ble_eq_true rfl) (show cl3 + 2 + 1 + 1 ≤ 1620 by omega) (show sl3 + 12 + 6 + 6 ≤ 9720 by omega) (fun v_ h7 hp_ => ?_) (fun _ _ z => z.elim)
                                        obtain ⟨rfl, X7⟩ := hp_
                                        obtain ⟨fs7, o7⟩ := X7.obj
                                        refine v_iload F (pc := 225) dL_isWalked_225 rfl ?_
                                        refine v_icmp_gt F (pc := 227) (a := σ 16 K) (b := s) 248 dL_isWalked_227 (by decide) (by omega) (by omega) (fun c_22 => ?_) (fun c_22 => ?_)
                                        · exfalso; omega
                                        · refine v_iload F (pc := 230) dL_isWalked_230 rfl ?_
                                          refine v_aload_n F (pc := 232) dL_isWalked_232 rfl ?_
                                          refine v_iload F (pc := 233) dL_isWalked_233 rfl ?_
                                          refine v_callV F (pc := 235) (As := [.int (iI (σ 10 K))]) (rest := [.int (iI (s))]) ci_L_35 ct_X4_slotOf cs_X4_slotOf (N_slotOf l g X7 (σ 10 K) hK.2.2.2.2.2.2.1 k0 (by omega)) dL_isWalked_235 (k0 := 7) rfl rfl o7 rfl rfl (Nat.le_of_ble_eq_true rfl) (Nat.le_of_ble_eq_true rfl) (Nat.le_of_ble_eq_true rfl) (show cl3 + 2 + 1 + 1 + 1 ≤ 1620 by omega) (show sl3 + 12 + 6 + 6 + 6 ≤ 9720 by omega) (fun v_ h8 hp_ => ?_) (fun _ _ z => z.elim)
                                          obtain ⟨rfl, X8⟩ := hp_
                                          obtain ⟨fs8, o8⟩ := X8.obj
                                          refine v_isub F (pc := 238) (a := s) (b := σ 16 K) dL_isWalked_238 ?_
                                          refine v_bipush F (pc := 239) dL_isWalked_239 (by decide) ?_
                                          refine v_icmp_ge F (pc := 241) (a := s - (σ 16 K)) (b := 6) 248 dL_isWalked_241 (by decide) (by omega) (by omega) (fun c_23 => ?_) (fun c_23 => ?_)
                                          · exfalso; omega
                                          · refine v_iconst F (pc := 244) dL_isWalked_244 ?_
                                            refine v_goto F (pc := 245) 249 dL_isWalked_245 (by decide) ?_
                                            refine v_istore F (pc := 249) (lo' := [some (.ref x), some (.ref a), some (.int (iI (σ 17 0))), none, some (.int (iI (1))), some (.int (iI (cw σ (20 * r + s)))), some (.int (iI (r))), some (.int (iI (0))), some (.int (iI (gp (m_fe σ r) s))), some (.int (iI (s))), some (.int (iI (σ 10 K)))]) dL_isWalked_249 (Nat.le_of_ble_eq_true rfl) rfl ?_
                                            refine v_iload F (pc := 251) dL_isWalked_251 rfl ?_
                                            refine v_iload F (pc := 253) dL_isWalked_253 rfl ?_
                                            refine v_if_lt F (pc := 255) (a := σ 10 K) 273 dL_isWalked_255 (by decide) (by omega) (fun c_24 => ?_) (fun c_24 => ?_)
                                            · exfalso; omega
                                            · refine v_aload_n F (pc := 258) dL_isWalked_258 rfl ?_
                                              refine v_iload F (pc := 259) dL_isWalked_259 rfl ?_
                                              refine v_callV F (pc := 261) (As := [.int (iI (σ 10 K))]) (rest := [.int (iI (cw σ (20 * r + s)))]) ci_L_35 ct_X4_slotOf cs_X4_slotOf (N_slotOf l g X8 (σ 10 K) hK.2.2.2.2.2.2.1 k0 (by omega)) dL_isWalked_261 (k0 := 7) rfl rfl o8 rfl rfl (Nat.le_of_ble_eq_true rfl) (Nat.le_of_ble_eq_true rfl) (Nat.le_of_ble_eq_true rfl) (show cl3 + 2 + 1 + 1 + 1 + 1 ≤ 1620 by omega) (show sl3 + 12 + 6 + 6 + 6 + 6 ≤ 9720 by omega) (fun v_ h9 hp_ => ?_) (fun _ _ z => z.elim)
                                              obtain ⟨rfl, X9⟩ := hp_
                                              obtain ⟨fs9, o9⟩ := X9.obj
                                              refine v_iload F (pc := 264) dL_isWalked_264 rfl ?_
                                              refine v_icmp_ne F (pc := 266) (a := σ 16 K) (b := s) 273 dL_isWalked_266 (by decide) (by omega) (by omega) (fun c_25 => ?_) (fun c_25 => ?_)
                                              · refine v_iconst F (pc := 273) dL_isWalked_273 ?_
                                                refine v_iadd F (pc := 274) (a := cw σ (20 * r + s)) (b := 0) dL_isWalked_274 ?_
                                                refine v_istore F (pc := 275) (lo' := [some (.ref x), some (.ref a), some (.int (iI (σ 17 0))), none, some (.int (iI (1))), some (.int (iI ((cw σ (20 * r + s)) + 0))), some (.int (iI (r))), some (.int (iI (0))), some (.int (iI (gp (m_fe σ r) s))), some (.int (iI (s))), some (.int (iI (σ 10 K)))]) dL_isWalked_275 (Nat.le_of_ble_eq_true rfl) rfl ?_
                                                refine v_iinc F (pc := 277) (lo' := [some (.ref x), some (.ref a), some (.int (iI (σ 17 0))), none, some (.int (iI (1))), some (.int (iI ((cw σ (20 * r + s)) + 0))), some (.int (iI (r))), some (.int (iI (0))), some (.int (iI (gp (m_fe σ r) s))), some (.int (iI (s + 1))), some (.int (iI (σ 10 K)))]) dL_isWalked_277 rfl (Nat.le_of_ble_eq_true rfl) rfl ?_
                                                refine v_goto F (pc := 280) 148 dL_isWalked_280 (by decide) ?_
                                                have k := ih3 h9 (s + 1) (cl3 + 2 + 1 + 1 + 1 + 1) (sl3 + 12 + 6 + 6 + 6 + 6) X9 (by omega) (by omega) (by omega) (by omega)
                                                have q1 : cw σ (20 * r + (s + 1)) = (cw σ (20 * r + s)) + 0 := by rw [← Int.add_assoc]; exact (by rw [Int.add_zero]; exact slot_up hIV (by omega) k0 k1 eK (by omega))
                                                have q2 : fr (m_fe σ r) (s + 1) = 0 := hfr
                                                have q3 : gp (m_fe σ r) (s + 1) = gp (m_fe σ r) s := by rw [gp_s _ hs.1, hfr]; omega
                                                rw [q1, q2, q3] at k
                                                exact V.fg (k) ⟨rfl, ⟨rfl, ⟨rfl, ⟨rfl, ⟨rfl, ⟨rfl, ⟨rfl, ⟨rfl, ⟨rfl, trivial⟩⟩⟩⟩⟩⟩⟩⟩⟩
                                              · refine v_iconst F (pc := 269) dL_isWalked_269 ?_
                                                refine v_goto F (pc := 270) 274 dL_isWalked_270 (by decide) ?_
                                                refine v_iadd F (pc := 274) (a := cw σ (20 * r + s)) (b := 1) dL_isWalked_274 ?_
                                                refine v_istore F (pc := 275) (lo' := [some (.ref x), some (.ref a), some (.int (iI (σ 17 0))), none, some (.int (iI (1))), some (.int (iI ((cw σ (20 * r + s)) + 1))), some (.int (iI (r))), some (.int (iI (0))), some (.int (iI (gp (m_fe σ r) s))), some (.int (iI (s))), some (.int (iI (σ 10 K)))]) dL_isWalked_275 (Nat.le_of_ble_eq_true rfl) rfl ?_
                                                refine v_iinc F (pc := 277) (lo' := [some (.ref x), some (.ref a), some (.int (iI (σ 17 0))), none, some (.int (iI (1))), some (.int (iI ((cw σ (20 * r + s)) + 1))), some (.int (iI (r))), some (.int (iI (0))), some (.int (iI (gp (m_fe σ r) s))), some (.int (iI (s + 1))), some (.int (iI (σ 10 K)))]) dL_isWalked_277 rfl (Nat.le_of_ble_eq_true rfl) rfl ?_
                                                refine v_goto F (pc := 280) 148 dL_isWalked_280 (by decide) ?_
                                                have k := ih3 h9 (s + 1) (cl3 + 2 + 1 + 1 + 1 + 1) (sl3 + 12 + 6 + 6 + 6 + 6) X9 (by omega) (by omega) (by omega) (by omega)
                                                have q1 : cw σ (20 * r + (s + 1)) = (cw σ (20 * r + s)) + 1 := by rw [← Int.add_assoc]; exact (slot_low hIV k0 k1 eK (by omega))
                                                have q2 : fr (m_fe σ r) (s + 1) = 0 := hfr
                                                have q3 : gp (m_fe σ r) (s + 1) = gp (m_fe σ r) s := by rw [gp_s _ hs.1, hfr]; omega
                                                rw [q1, q2, q3] at k
                                                exact V.fg (k) ⟨rfl, ⟨rfl, ⟨rfl, ⟨rfl, ⟨rfl, ⟨rfl, ⟨rfl, ⟨rfl, ⟨rfl, trivial⟩⟩⟩⟩⟩⟩⟩⟩⟩
                                  · exfalso; omega
                                · exfalso; omega
                      have k := LP148 21 h3 0 (cl2) (sl2) X3 (by omega) (by omega) (by omega) (by omega)
                      rw [Int.add_zero] at k
                      exact V.fg (k) ⟨rfl, ⟨rfl, ⟨rfl, ⟨rfl, ⟨rfl, ⟨rfl, ⟨rfl, ⟨rfl, ⟨rfl, trivial⟩⟩⟩⟩⟩⟩⟩⟩⟩
              have e0 : cw σ (20 * (0 : Int)) = 0 := by rw [Int.mul_zero]; exact ws_0 hIV
              have k := LP125 9 h2 0 (cl) (sl) X2 (by omega) (by omega) (by omega) (by omega)
              rw [e0] at k
              exact V.fg (k) ⟨rfl, ⟨rfl, ⟨rfl, ⟨rfl, ⟨rfl, ⟨rfl, trivial⟩⟩⟩⟩⟩⟩
        · exact absurd c_1 (by decide)
      · rw [e1]
        have hK := hIV.mach k0 k1
        have hc1 : cw σ (m_way σ K + 1) = cw σ (bh + 1) + 1 := ws_step hIV k0 k1 e2 e3
        have hc2 := cw_rng hIV (m_way σ K + 1)
        refine v_iload F (pc := 14) dL_isWalked_14 rfl ?_
        refine v_if_lt F (pc := 16) (a := σ 10 K) 99 dL_isWalked_16 (by decide) (by omega) (fun c_26 => ?_) (fun c_26 => ?_)
        · exfalso; omega
        · refine v_iload F (pc := 19) dL_isWalked_19 rfl ?_
          refine v_if_eq F (pc := 21) (a := 1) 99 dL_isWalked_21 (by decide) (by omega) (fun c_27 => ?_) (fun c_27 => ?_)
          · exact absurd c_27 (by decide)
          · refine v_bipush F (pc := 24) dL_isWalked_24 (by decide) ?_
            refine v_aload_n F (pc := 26) dL_isWalked_26 rfl ?_
            refine v_iload F (pc := 27) dL_isWalked_27 rfl ?_
            refine v_callV F (pc := 29) (As := [.int (iI (σ 10 K))]) (rest := [.int (iI (20))]) ci_L_26 ct_X4_rackOf cs_X4_rackOf (N_rackOf l g Xq (σ 10 K) hK.2.2.2.2.2.2.1 k0 (by omega)) dL_isWalked_29 (k0 := 7) rfl rfl oq rfl rfl (Nat.le_of_ble_eq_true rfl) (Nat.le_of_ble_eq_true rfl) (Nat.le_of_ble_eq_true rfl) (show cl + 1 ≤ 1620 by omega) (show sl + 6 ≤ 9720 by omega) (fun v_ h10 hp_ => ?_) (fun _ _ z => z.elim)
            obtain ⟨rfl, X10⟩ := hp_
            obtain ⟨fs10, o10⟩ := X10.obj
            refine v_imul F (pc := 32) (a := 20) (b := σ 15 K) dL_isWalked_32 ?_
            refine v_aload_n F (pc := 33) dL_isWalked_33 rfl ?_
            refine v_iload F (pc := 34) dL_isWalked_34 rfl ?_
            refine v_callV F (pc := 36) (As := [.int (iI (σ 10 K))]) (rest := [.int (iI (20 * (σ 15 K)))]) ci_L_35 ct_X4_slotOf cs_X4_slotOf (N_slotOf l g X10 (σ 10 K) hK.2.2.2.2.2.2.1 k0 (by omega)) dL_isWalked_36 (k0 := 7) rfl rfl o10 rfl rfl (Nat.le_of_ble_eq_true rfl) (Nat.le_of_ble_eq_true rfl) (Nat.le_of_ble_eq_true rfl) (show cl + 1 + 1 ≤ 1620 by omega) (show sl + 6 + 6 ≤ 9720 by omega) (fun v_ h11 hp_ => ?_) (fun _ _ z => z.elim)
            obtain ⟨rfl, X11⟩ := hp_
            obtain ⟨fs11, o11⟩ := X11.obj
            refine v_iadd F (pc := 39) (a := 20 * (σ 15 K)) (b := σ 16 K) dL_isWalked_39 ?_
            refine v_istore F (pc := 40) (lo' := [some (.ref x), some (.ref a), some (.int (iI (cw σ (bh + 1)))), some (.int (iI (bh))), some (.int (iI (1))), some (.int (iI (σ 10 K))), some (.int (iI ((20 * (σ 15 K)) + (σ 16 K)))), none, none, none, none]) dL_isWalked_40 (Nat.le_of_ble_eq_true rfl) rfl ?_
            refine v_iload F (pc := 42) dL_isWalked_42 rfl ?_
            refine v_iload_n F (pc := 44) dL_isWalked_44 rfl ?_
            refine v_icmp_le F (pc := 45) (a := (20 * (σ 15 K)) + (σ 16 K)) (b := bh) 79 dL_isWalked_45 (by decide) (by omega) (by omega) (fun c_28 => ?_) (fun c_28 => ?_)
            · exfalso; omega
            · refine v_aload_n F (pc := 48) dL_isWalked_48 rfl ?_
              refine v_aload_n F (pc := 49) dL_isWalked_49 rfl ?_
              refine v_iload F (pc := 50) dL_isWalked_50 rfl ?_
              refine v_callV F (pc := 52) (As := [.int (iI (σ 10 K))]) (rest := [.ref x]) ci_L_26 ct_X4_rackOf cs_X4_rackOf (N_rackOf l g X11 (σ 10 K) hK.2.2.2.2.2.2.1 k0 (by omega)) dL_isWalked_52 (k0 := 7) rfl rfl o11 rfl rfl (Nat.le_of_ble_eq_true rfl) (Nat.le_of_ble_eq_true rfl) (Nat.le_of_ble_eq_true rfl) (show cl + 1 + 1 + 1 ≤ 1620 by omega) (show sl + 6 + 6 + 6 ≤ 9720 by omega) (fun v_ h12 hp_ => ?_) (fun _ _ z => z.elim)
              obtain ⟨rfl, X12⟩ := hp_
              obtain ⟨fs12, o12⟩ := X12.obj
              refine v_aload_n F (pc := 55) dL_isWalked_55 rfl ?_
              refine v_iload F (pc := 56) dL_isWalked_56 rfl ?_
              refine v_callV F (pc := 58) (As := [.int (iI (σ 10 K))]) (rest := [.int (iI (σ 15 K)), .ref x]) ci_L_35 ct_X4_slotOf cs_X4_slotOf (N_slotOf l g X12 (σ 10 K) hK.2.2.2.2.2.2.1 k0 (by omega)) dL_isWalked_58 (k0 := 7) rfl rfl o12 rfl rfl (Nat.le_of_ble_eq_true rfl) (Nat.le_of_ble_eq_true rfl) (Nat.le_of_ble_eq_true rfl) (show cl + 1 + 1 + 1 + 1 ≤ 1620 by omega) (show sl + 6 + 6 + 6 + 6 ≤ 9720 by omega) (fun v_ h13 hp_ => ?_) (fun _ _ z => z.elim)
              obtain ⟨rfl, X13⟩ := hp_
              obtain ⟨fs13, o13⟩ := X13.obj
              refine v_callV F (pc := 61) (As := [.int (iI (σ 15 K)), .int (iI (σ 16 K))]) (rest := []) ci_L_38 ct_X4_machineAt cs_X4_machineAt (N_machineAt l g X13 (σ 15 K) (σ 16 K) (by omega) (by omega)) dL_isWalked_61 (k0 := 7) rfl rfl o13 rfl rfl (Nat.le_of_ble_eq_true rfl) (Nat.le_of_ble_eq_true rfl) (Nat.le_of_ble_eq_true rfl) (show cl + 1 + 1 + 1 + 1 + 2 ≤ 1620 by omega) (show sl + 6 + 6 + 6 + 6 + 12 ≤ 9720 by omega) (fun v_ h14 hp_ => ?_) (fun _ _ z => z.elim)
              obtain ⟨rfl, X14⟩ := hp_
              obtain ⟨fs14, o14⟩ := X14.obj
              rw [hIV.mAt_ k0 k1 (by omega)]
              refine v_iload F (pc := 64) dL_isWalked_64 rfl ?_
              refine v_icmp_ne F (pc := 66) (a := σ 10 K) (b := σ 10 K) 79 dL_isWalked_66 (by decide) (by omega) (by omega) (fun c_29 => ?_) (fun c_29 => ?_)
              · exfalso; omega
              · refine v_iload_n F (pc := 69) dL_isWalked_69 rfl ?_
                refine v_bipush F (pc := 70) dL_isWalked_70 (by decide) ?_
                refine v_icmp_ge F (pc := 72) (a := cw σ (bh + 1)) (b := 60) 79 dL_isWalked_72 (by decide) (by omega) (by omega) (fun c_30 => ?_) (fun c_30 => ?_)
                · exfalso; omega
                · refine v_iconst F (pc := 75) dL_isWalked_75 ?_
                  refine v_goto F (pc := 76) 80 dL_isWalked_76 (by decide) ?_
                  refine v_istore F (pc := 80) (lo' := [some (.ref x), some (.ref a), some (.int (iI (cw σ (bh + 1)))), some (.int (iI (bh))), some (.int (iI (1))), some (.int (iI (σ 10 K))), some (.int (iI ((20 * (σ 15 K)) + (σ 16 K)))), none, none, none, none]) dL_isWalked_80 (Nat.le_of_ble_eq_true rfl) rfl ?_
                  refine v_iload F (pc := 82) dL_isWalked_82 rfl ?_
                  refine v_istore_n F (pc := 84) (lo' := [some (.ref x), some (.ref a), some (.int (iI (cw σ (bh + 1)))), some (.int (iI ((20 * (σ 15 K)) + (σ 16 K)))), some (.int (iI (1))), some (.int (iI (σ 10 K))), some (.int (iI ((20 * (σ 15 K)) + (σ 16 K)))), none, none, none, none]) dL_isWalked_84 (Nat.le_of_ble_eq_true rfl) rfl ?_
                  refine v_iinc F (pc := 85) (lo' := [some (.ref x), some (.ref a), some (.int (iI (cw σ (bh + 1) + 1))), some (.int (iI ((20 * (σ 15 K)) + (σ 16 K)))), some (.int (iI (1))), some (.int (iI (σ 10 K))), some (.int (iI ((20 * (σ 15 K)) + (σ 16 K)))), none, none, none, none]) dL_isWalked_85 rfl (Nat.le_of_ble_eq_true rfl) rfl ?_
                  refine v_aload_n F (pc := 88) dL_isWalked_88 rfl ?_
                  refine v_iload F (pc := 89) dL_isWalked_89 rfl ?_
                  refine v_callV F (pc := 91) (As := [.int (iI (σ 10 K))]) (rest := []) ci_L_32 ct_X4_next cs_X4_next (N_nextk l g X14 (σ 10 K) hK.2.2.2.2.2.2.1 k0 (by omega) (by omega)) dL_isWalked_91 (k0 := 7) rfl rfl o14 rfl rfl (Nat.le_of_ble_eq_true rfl) (Nat.le_of_ble_eq_true rfl) (Nat.le_of_ble_eq_true rfl) (show cl + 1 + 1 + 1 + 1 + 2 + 1 ≤ 1620 by omega) (show sl + 6 + 6 + 6 + 6 + 12 + 6 ≤ 9720 by omega) (fun v_ h15 hp_ => ?_) (fun _ _ z => z.elim)
                  obtain ⟨rfl, X15⟩ := hp_
                  obtain ⟨fs15, o15⟩ := X15.obj
                  refine v_istore F (pc := 94) (lo' := [some (.ref x), some (.ref a), some (.int (iI (cw σ (bh + 1) + 1))), some (.int (iI ((20 * (σ 15 K)) + (σ 16 K)))), some (.int (iI (1))), some (.int (iI (nxt σ (m_way σ K)))), some (.int (iI ((20 * (σ 15 K)) + (σ 16 K)))), none, none, none, none]) dL_isWalked_94 (Nat.le_of_ble_eq_true rfl) rfl ?_
                  refine v_goto F (pc := 96) 14 dL_isWalked_96 (by decide) ?_
                  rw [← hc1]
                  exact V.fg (ih h15 (m_way σ K) (cl + 1 + 1 + 1 + 1 + 2 + 1) (sl + 6 + 6 + 6 + 6 + 12 + 6) X15 (by omega) (by omega) (by omega) (by omega)) ⟨rfl, ⟨rfl, ⟨rfl, ⟨rfl, ⟨rfl, ⟨rfl, trivial⟩⟩⟩⟩⟩⟩
  have e0 : cw σ (-1 + 1) = 0 := ws_0 hIV
  have k := LP14 61 h1 (-1) 1 6 X1 (by decide) (by decide) (by decide) (by omega)
  rw [e0] at k
  exact V.fg (k) ⟨rfl, ⟨rfl, ⟨rfl, ⟨rfl, ⟨rfl, ⟨rfl, trivial⟩⟩⟩⟩⟩⟩
