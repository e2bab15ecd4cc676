/-! ===== the law: isFed ===== -/
-- L_isFed
set_option maxRecDepth 100000 in
set_option maxHeartbeats 8000000 in
theorem KL_isFed (l : Launch) (g : gT) {x a : Nat} {h : fH} {σ : sT} {kf : fH} {F0_ : Int → Int} (hX : SL g x h σ kf) (hk : kf a = some (iar (g.2.1 0) 8 F0_)) (hF : ∀ r, 0 ≤ r → r < σ 5 0 → F0_ r = σ 4 r) : CM l g yL_isFed cL_isFed 8 (some .boolean) ({ frames := 13, cells := 830, slots := 4980, locals := 207 }) [.ref x, .ref a] (h) (fun v h1 => v = some (.int (iI 1)) ∧ SL g x h1 σ kf) (noX) := by
  refine CM.of (lo := [some (.ref x), some (.ref a), none, none, none, none, none, none]) (by decide) (Nat.le_of_ble_eq_true rfl) (by simp [Value.category]) rfl ?_
  intro pX eX sX mX bX tX cX AX F htab hmn
  have F : Fx pX l sX mX ([.ref x, .ref a] : List Value).toArray tX cX cL_isFed 8 (some .boolean) RL g AX := F
  have hIV := hX.iv
  have hm := mb_nm hIV.1
  have hn := mb_nr hIV.1
  have hML := hIV.2.2.2.2.2
  obtain ⟨fsi, oi⟩ := hX.obj
  refine v_iconst F (pc := 0) dL_isFed_0 ?_
  refine v_istore_n F (pc := 1) (lo' := [some (.ref x), some (.ref a), some (.int (iI (1))), none, none, none, none, none]) dL_isFed_1 (Nat.le_of_ble_eq_true rfl) rfl ?_
  refine v_iconst F (pc := 2) dL_isFed_2 ?_
  refine v_istore_n F (pc := 3) (lo' := [some (.ref x), some (.ref a), some (.int (iI (1))), some (.int (iI (0))), none, none, none, none]) dL_isFed_3 (Nat.le_of_ble_eq_true rfl) rfl ?_
  refine v_iconst F (pc := 4) dL_isFed_4 ?_
  refine v_istore F (pc := 5) (lo' := [some (.ref x), some (.ref a), some (.int (iI (1))), some (.int (iI (0))), some (.int (iI (0))), none, none, none]) dL_isFed_5 (Nat.le_of_ble_eq_true rfl) rfl ?_
  refine v_iconst F (pc := 7) dL_isFed_7 ?_
  refine v_istore F (pc := 8) (lo' := [some (.ref x), some (.ref a), some (.int (iI (1))), some (.int (iI (0))), some (.int (iI (0))), some (.int (iI (0))), none, none]) dL_isFed_8 (Nat.le_of_ble_eq_true rfl) rfl ?_
  refine v_iconst F (pc := 10) dL_isFed_10 ?_
  refine v_istore F (pc := 11) (lo' := [some (.ref x), some (.ref a), some (.int (iI (1))), some (.int (iI (0))), some (.int (iI (0))), some (.int (iI (0))), some (.int (iI (0))), none]) dL_isFed_11 (Nat.le_of_ble_eq_true rfl) rfl ?_
  have LP13 : ∀ (N_ : Nat) (hq : fH) (r : Int) (cl : Nat) (sl : Nat), (SL g x hq σ kf) → (0 ≤ r ∧ r ≤ σ 5 0) → (cl + 56 * N_ ≤ 510) → (sl + 336 * N_ ≤ 3060) → (σ 5 0 - r).toNat < N_ → VE pX l eX ({ frames := 13, cells := 830, slots := 4980, locals := 207 }) sX mX ([.ref x, .ref a] : List Value).toArray bX tX cX 8 g AX (hq) cl sl 13 [some (.ref x), some (.ref a), some (.int (iI (1))), some (.int (iI (NW σ r))), some (.int (iI (WW σ r))), some (.int (iI (0))), some (.int (iI (r))), none] [] (fun v h1 => v = some (.int (iI 1)) ∧ SL g x h1 σ kf) (noX) 830 4980 := by
    intro N_
    induction N_ with
    | zero => intro hq r cl sl _ _ _ _ hm_; exact absurd hm_ (Nat.not_lt_zero _)
    | succ N_ ih =>
      intro hq r cl sl Xq hr hcl hsl hm_
      obtain ⟨fsq, oq⟩ := Xq.obj
      have hnr := nw_rng hIV (r := r) (by omega)
      have hwrr := ww_rng hIV (r := r) (by omega)
      refine v_iload F (pc := 13) dL_isFed_13 rfl ?_
      refine v_aload_n F (pc := 15) dL_isFed_15 rfl ?_
      refine v_callV F (pc := 16) (As := []) (rest := [.int (iI (r))]) ci_L_45 ct_X4_racks cs_X4_racks (N_racks l g Xq) dL_isFed_16 (k0 := 7) rfl rfl oq rfl rfl (Nat.le_of_ble_eq_true rfl) (Nat.le_of_ble_eq_true rfl) (Nat.le_of_ble_eq_true rfl) (show cl + 0 ≤ 830 by omega) (show sl + 0 ≤ 4980 by omega) (fun v_ h1 hp_ => ?_) (fun _ _ z => z.elim)
      obtain ⟨rfl, X1⟩ := hp_
      obtain ⟨fs1, o1⟩ := X1.obj
      refine v_icmp_ge F (pc := 19) (a := r) (b := σ 5 0) 193 dL_isFed_19 (by decide) (by omega) (by omega) (fun c_1 => ?_) (fun c_1 => ?_)
      · refine v_iconst F (pc := 193) dL_isFed_193 ?_
        refine v_istore F (pc := 194) (lo' := [some (.ref x), some (.ref a), some (.int (iI (1))), some (.int (iI (NW σ r))), some (.int (iI (WW σ r))), some (.int (iI (0))), some (.int (iI (0))), none]) dL_isFed_194 (Nat.le_of_ble_eq_true rfl) rfl ?_
        have LP196 : ∀ (N3_ : Nat) (hq3 : fH) (row : Int) (cl3 : Nat) (sl3 : Nat), (SL g x hq3 σ kf) → (0 ≤ row ∧ row ≤ 4) → (cl3 + 1 * N3_ ≤ 516) → (sl3 + 6 * N3_ ≤ 3096) → (4 - row).toNat < N3_ → VE pX l eX ({ frames := 13, cells := 830, slots := 4980, locals := 207 }) sX mX ([.ref x, .ref a] : List Value).toArray bX tX cX 8 g AX (hq3) cl3 sl3 196 [some (.ref x), some (.ref a), some (.int (iI (1))), some (.int (iI (NW σ (σ 5 0)))), some (.int (iI (WW σ (σ 5 0)))), some (.int (iI (sm (fun w => HO σ w) row))), some (.int (iI (row))), none] [] (fun v h1 => v = some (.int (iI 1)) ∧ SL g x h1 σ kf) (noX) 830 4980 := by
          intro N3_
          induction N3_ with
          | zero => intro hq3 row cl3 sl3 _ _ _ _ hm_; exact absurd hm_ (Nat.not_lt_zero _)
          | succ N3_ ih3 =>
            intro hq3 row cl3 sl3 Xq3 hrow hcl3 hsl3 hm3_
            obtain ⟨fsq3, oq3⟩ := Xq3.obj
            refine v_iload F (pc := 196) dL_isFed_196 rfl ?_
            refine v_iconst F (pc := 198) dL_isFed_198 ?_
            refine v_icmp_ge F (pc := 199) (a := row) (b := 4) 219 dL_isFed_199 (by decide) (by omega) (by omega) (fun c_2 => ?_) (fun c_2 => ?_)
            · rw [show row = 4 by omega, heat_now hIV]
              refine v_iconst F (pc := 219) dL_isFed_219 ?_
              refine v_istore F (pc := 220) (lo' := [some (.ref x), some (.ref a), some (.int (iI (1))), some (.int (iI (NW σ (σ 5 0)))), some (.int (iI (WW σ (σ 5 0)))), some (.int (iI (NW σ (σ 5 0)))), some (.int (iI (1))), none]) dL_isFed_220 (Nat.le_of_ble_eq_true rfl) rfl ?_
              refine v_aload_n F (pc := 222) dL_isFed_222 rfl ?_
              refine v_iconst F (pc := 223) dL_isFed_223 ?_
              refine v_callV F (pc := 224) (As := [.int (iI (-1))]) (rest := []) ci_L_32 ct_X4_next cs_X4_next (N_next0 l g Xq3) dL_isFed_224 (k0 := 7) rfl rfl oq3 rfl rfl (Nat.le_of_ble_eq_true rfl) (Nat.le_of_ble_eq_true rfl) (Nat.le_of_ble_eq_true rfl) (show cl3 + 1 ≤ 830 by omega) (show sl3 + 6 ≤ 4980 by omega) (fun v_ h2 hp_ => ?_) (fun _ _ z => z.elim)
              obtain ⟨rfl, X2⟩ := hp_
              obtain ⟨fs2, o2⟩ := X2.obj
              refine v_istore F (pc := 227) (lo' := [some (.ref x), some (.ref a), some (.int (iI (1))), some (.int (iI (NW σ (σ 5 0)))), some (.int (iI (WW σ (σ 5 0)))), some (.int (iI (NW σ (σ 5 0)))), some (.int (iI (1))), some (.int (iI (nxt σ (-1))))]) dL_isFed_227 (Nat.le_of_ble_eq_true rfl) rfl ?_
              have LP229 : ∀ (N4_ : Nat) (hq4 : fH) (bh : Int) (b : Bool) (cl4 : Nat) (sl4 : Nat), (SL g x hq4 σ kf) → (-1 ≤ bh ∧ bh < 160) → (σ 9 0 = 1 → σ 9 1 = 1 → b = true) → (cl4 + 5 * N4_ ≤ 826) → (sl4 + 30 * N4_ ≤ 4956) → (σ 17 0 - cw σ (bh + 1)).toNat < N4_ → VE pX l eX ({ frames := 13, cells := 830, slots := 4980, locals := 207 }) sX mX ([.ref x, .ref a] : List Value).toArray bX tX cX 8 g AX (hq4) cl4 sl4 229 [some (.ref x), some (.ref a), some (.int (iI (1))), some (.int (iI (NW σ (σ 5 0)))), some (.int (iI (WW σ (σ 5 0)))), some (.int (iI (NW σ (σ 5 0)))), some (.int (iI (bI b))), some (.int (iI (nxt σ bh)))] [] (fun v h1 => v = some (.int (iI 1)) ∧ SL g x h1 σ kf) (noX) 830 4980 := by
                intro N4_
                induction N4_ with
                | zero => intro hq4 bh b cl4 sl4 _ _ _ _ _ hm_; exact absurd hm_ (Nat.not_lt_zero _)
                | succ N4_ ih4 =>
                  intro hq4 bh b cl4 sl4 Xq4 hbh hbb hcl4 hsl4 hm4_
                  obtain ⟨fsq4, oq4⟩ := Xq4.obj
                  have hcr := cw_rng hIV (bh + 1)
                  have hnn := nw_rng hIV (r := σ 5 0) (by omega)
                  have hww := ww_rng hIV (r := σ 5 0) (by omega)
                  have hnw := nw_ww hIV hn.1
                  rcases nxt_cases hIV bh with ⟨e1, e2⟩ | ⟨K, k0, k1, e1, e2, e3⟩
                  · rw [e1]
                    refine v_iload F (pc := 229) dL_isFed_229 rfl ?_
                    refine v_if_lt F (pc := 231) (a := -1) 301 dL_isFed_231 (by decide) (by omega) (fun c_3 => ?_) (fun c_3 => ?_)
                    · refine v_iload_n F (pc := 301) dL_isFed_301 rfl ?_
                      refine v_if_eq F (pc := 302) (a := 1) 346 dL_isFed_302 (by decide) (by omega) (fun c_4 => ?_) (fun c_4 => ?_)
                      · exact absurd c_4 (by decide)
                      · refine v_iload F (pc := 305) dL_isFed_305 rfl ?_
                        refine v_iload_n F (pc := 307) dL_isFed_307 rfl ?_
                        refine v_icmp_ne F (pc := 308) (a := NW σ (σ 5 0)) (b := NW σ (σ 5 0)) 346 dL_isFed_308 (by decide) (by omega) (by omega) (fun c_5 => ?_) (fun c_5 => ?_)
                        · exfalso; omega
                        · refine v_iload_n F (pc := 311) dL_isFed_311 rfl ?_
                          refine v_iload F (pc := 312) dL_isFed_312 rfl ?_
                          refine v_icmp_gt F (pc := 314) (a := NW σ (σ 5 0)) (b := WW σ (σ 5 0)) 346 dL_isFed_314 (by decide) (by omega) (by omega) (fun c_6 => ?_) (fun c_6 => ?_)
                          · exfalso; omega
                          · refine v_aload_n F (pc := 317) dL_isFed_317 rfl ?_
                            refine v_iconst F (pc := 318) dL_isFed_318 ?_
                            refine v_callV F (pc := 319) (As := [.int (iI (0))]) (rest := []) ci_L_57 ct_X4_hasFailed cs_X4_hasFailed (N_hasFailed l g Xq4 0 (by omega)) dL_isFed_319 (k0 := 7) rfl rfl oq4 rfl rfl (Nat.le_of_ble_eq_true rfl) (Nat.le_of_ble_eq_true rfl) (Nat.le_of_ble_eq_true rfl) (show cl4 + 1 ≤ 830 by omega) (show sl4 + 6 ≤ 4980 by omega) (fun v_ h3 hp_ => ?_) (fun _ _ z => z.elim)
                            obtain ⟨rfl, X3⟩ := hp_
                            obtain ⟨fs3, o3⟩ := X3.obj
                            refine v_if_eqB F (pc := 322) (b := (decide (σ 9 0 = 1))) 342 dL_isFed_322 (by decide) (fun c_7 => ?_) (fun c_7 => ?_)
                            · refine v_iconst F (pc := 342) dL_isFed_342 ?_
                              refine v_goto F (pc := 343) 347 dL_isFed_343 (by decide) ?_
                              refine v_iret F (pc := 347) (z := (iI (1))) dL_isFed_347 rfl (by first | rfl | exact nar_bI _ | decide) (show cl4 + 1 ≤ 830 by omega) (show sl4 + 6 ≤ 4980 by omega) ?_
                              exact ⟨rfl, X3⟩
                            · have q9 := of_decide_eq_true c_7
                              refine v_aload_n F (pc := 325) dL_isFed_325 rfl ?_
                              refine v_iconst F (pc := 326) dL_isFed_326 ?_
                              refine v_callV F (pc := 327) (As := [.int (iI (1))]) (rest := []) ci_L_57 ct_X4_hasFailed cs_X4_hasFailed (N_hasFailed l g X3 1 (by omega)) dL_isFed_327 (k0 := 7) rfl rfl o3 rfl rfl (Nat.le_of_ble_eq_true rfl) (Nat.le_of_ble_eq_true rfl) (Nat.le_of_ble_eq_true rfl) (show cl4 + 1 + 1 ≤ 830 by omega) (show sl4 + 6 + 6 ≤ 4980 by omega) (fun v_ h4 hp_ => ?_) (fun _ _ z => z.elim)
                              obtain ⟨rfl, X4⟩ := hp_
                              obtain ⟨fs4, o4⟩ := X4.obj
                              refine v_if_eqB F (pc := 330) (b := (decide (σ 9 1 = 1))) 342 dL_isFed_330 (by decide) (fun c_8 => ?_) (fun c_8 => ?_)
                              · refine v_iconst F (pc := 342) dL_isFed_342 ?_
                                refine v_goto F (pc := 343) 347 dL_isFed_343 (by decide) ?_
                                refine v_iret F (pc := 347) (z := (iI (1))) dL_isFed_347 rfl (by first | rfl | exact nar_bI _ | decide) (show cl4 + 1 + 1 ≤ 830 by omega) (show sl4 + 6 + 6 ≤ 4980 by omega) ?_
                                exact ⟨rfl, X4⟩
                              · have q8 := of_decide_eq_true c_8
                                have hnz := nw_off hIV hn.1 q9 q8
                                have hbt := hbb q9 q8
                                refine v_iload F (pc := 333) dL_isFed_333 rfl ?_
                                refine v_if_eqB F (pc := 335) (b := b) 346 dL_isFed_335 (by decide) (fun c_9 => ?_) (fun c_9 => ?_)
                                · exfalso; simp_all
                                · refine v_iload_n F (pc := 338) dL_isFed_338 rfl ?_
                                  refine v_if_ne F (pc := 339) (a := NW σ (σ 5 0)) 346 dL_isFed_339 (by decide) (by omega) (fun c_10 => ?_) (fun c_10 => ?_)
                                  · exfalso; omega
                                  · refine v_iconst F (pc := 342) dL_isFed_342 ?_
                                    refine v_goto F (pc := 343) 347 dL_isFed_343 (by decide) ?_
                                    refine v_iret F (pc := 347) (z := (iI (1))) dL_isFed_347 rfl (by first | rfl | exact nar_bI _ | decide) (show cl4 + 1 + 1 ≤ 830 by omega) (show sl4 + 6 + 6 ≤ 4980 by omega) ?_
                                    exact ⟨rfl, X4⟩
                    · exact absurd c_3 (by decide)
                  · rw [e1]
                    have hK := hIV.mach k0 k1
                    have hc1 : cw σ (m_way σ K + 1) = cw σ (bh + 1) + 1 := ws_step hIV k0 k1 e2 e3
                    have hc2 := cw_rng hIV (m_way σ K + 1)
                    refine v_iload F (pc := 229) dL_isFed_229 rfl ?_
                    refine v_if_lt F (pc := 231) (a := σ 10 K) 301 dL_isFed_231 (by decide) (by omega) (fun c_11 => ?_) (fun c_11 => ?_)
                    · exfalso; omega
                    · refine v_iload F (pc := 234) dL_isFed_234 rfl ?_
                      refine v_if_eqB F (pc := 236) (b := b) 252 dL_isFed_236 (by decide) (fun c_12 => ?_) (fun c_12 => ?_)
                      · refine v_iconst F (pc := 252) dL_isFed_252 ?_
                        refine v_istore F (pc := 253) (lo' := [some (.ref x), some (.ref a), some (.int (iI (1))), some (.int (iI (NW σ (σ 5 0)))), some (.int (iI (WW σ (σ 5 0)))), some (.int (iI (NW σ (σ 5 0)))), some (.int (iI (0))), some (.int (iI (σ 10 K)))]) dL_isFed_253 (Nat.le_of_ble_eq_true rfl) rfl ?_
                        refine v_iload_n F (pc := 255) dL_isFed_255 rfl ?_
                        refine v_if_eq F (pc := 256) (a := 1) 288 dL_isFed_256 (by decide) (by omega) (fun c_13 => ?_) (fun c_13 => ?_)
                        · exact absurd c_13 (by decide)
                        · refine v_aload_n F (pc := 259) dL_isFed_259 rfl ?_
                          refine v_iload F (pc := 260) dL_isFed_260 rfl ?_
                          refine v_callV F (pc := 262) (As := [.int (iI (σ 10 K))]) (rest := []) ci_L_64 ct_X4_isDark cs_X4_isDark (N_isDark l g Xq4 (σ 10 K) hK.2.2.2.2.2.2.1 k0 (by omega)) dL_isFed_262 (k0 := 7) rfl rfl oq4 rfl rfl (Nat.le_of_ble_eq_true rfl) (Nat.le_of_ble_eq_true rfl) (Nat.le_of_ble_eq_true rfl) (show cl4 + 1 ≤ 830 by omega) (show sl4 + 6 ≤ 4980 by omega) (fun v_ h5 hp_ => ?_) (fun _ _ z => z.elim)
                          obtain ⟨rfl, X5⟩ := hp_
                          obtain ⟨fs5, o5⟩ := X5.obj
                          refine v_if_eqB F (pc := 265) (b := (m_dark σ K)) 284 dL_isFed_265 (by decide) (fun c_14 => ?_) (fun c_14 => ?_)
                          · refine v_iconst F (pc := 284) dL_isFed_284 ?_
                            refine v_goto F (pc := 285) 289 dL_isFed_285 (by decide) ?_
                            refine v_istore_n F (pc := 289) (lo' := [some (.ref x), some (.ref a), some (.int (iI (1))), some (.int (iI (NW σ (σ 5 0)))), some (.int (iI (WW σ (σ 5 0)))), some (.int (iI (NW σ (σ 5 0)))), some (.int (iI (0))), some (.int (iI (σ 10 K)))]) dL_isFed_289 (Nat.le_of_ble_eq_true rfl) rfl ?_
                            refine v_aload_n F (pc := 290) dL_isFed_290 rfl ?_
                            refine v_iload F (pc := 291) dL_isFed_291 rfl ?_
                            refine v_callV F (pc := 293) (As := [.int (iI (σ 10 K))]) (rest := []) ci_L_32 ct_X4_next cs_X4_next (N_nextk l g X5 (σ 10 K) hK.2.2.2.2.2.2.1 k0 (by omega) (by omega)) dL_isFed_293 (k0 := 7) rfl rfl o5 rfl rfl (Nat.le_of_ble_eq_true rfl) (Nat.le_of_ble_eq_true rfl) (Nat.le_of_ble_eq_true rfl) (show cl4 + 1 + 1 ≤ 830 by omega) (show sl4 + 6 + 6 ≤ 4980 by omega) (fun v_ h6 hp_ => ?_) (fun _ _ z => z.elim)
                            obtain ⟨rfl, X6⟩ := hp_
                            obtain ⟨fs6, o6⟩ := X6.obj
                            refine v_istore F (pc := 296) (lo' := [some (.ref x), some (.ref a), some (.int (iI (1))), some (.int (iI (NW σ (σ 5 0)))), some (.int (iI (WW σ (σ 5 0)))), some (.int (iI (NW σ (σ 5 0)))), some (.int (iI (0))), some (.int (iI (nxt σ (m_way σ K))))]) dL_isFed_296 (Nat.le_of_ble_eq_true rfl) rfl ?_
                            refine v_goto F (pc := 298) 229 dL_isFed_298 (by decide) ?_
                            exact ih4 h6 (m_way σ K) false (cl4 + 1 + 1) (sl4 + 6 + 6) X6 (by omega) (fun z1 z2 => by have q1 := hbb z1 z2; have q2 := (tk_all hIV k0 k1).2.2.2 z1 z2; simp_all) (by omega) (by omega) (by omega)
                          · refine v_aload_n F (pc := 268) dL_isFed_268 rfl ?_
                            refine v_iconst F (pc := 269) dL_isFed_269 ?_
                            refine v_callV F (pc := 270) (As := [.int (iI (0))]) (rest := []) ci_L_57 ct_X4_hasFailed cs_X4_hasFailed (N_hasFailed l g X5 0 (by omega)) dL_isFed_270 (k0 := 7) rfl rfl o5 rfl rfl (Nat.le_of_ble_eq_true rfl) (Nat.le_of_ble_eq_true rfl) (Nat.le_of_ble_eq_true rfl) (show cl4 + 1 + 1 ≤ 830 by omega) (show sl4 + 6 + 6 ≤ 4980 by omega) (fun v_ h7 hp_ => ?_) (fun _ _ z => z.elim)
                            obtain ⟨rfl, X7⟩ := hp_
                            obtain ⟨fs7, o7⟩ := X7.obj
                            refine v_if_neB F (pc := 273) (b := (decide (σ 9 0 = 1))) 284 dL_isFed_273 (by decide) (fun c_15 => ?_) (fun c_15 => ?_)
                            · refine v_iconst F (pc := 284) dL_isFed_284 ?_
                              refine v_goto F (pc := 285) 289 dL_isFed_285 (by decide) ?_
                              refine v_istore_n F (pc := 289) (lo' := [some (.ref x), some (.ref a), some (.int (iI (1))), some (.int (iI (NW σ (σ 5 0)))), some (.int (iI (WW σ (σ 5 0)))), some (.int (iI (NW σ (σ 5 0)))), some (.int (iI (0))), some (.int (iI (σ 10 K)))]) dL_isFed_289 (Nat.le_of_ble_eq_true rfl) rfl ?_
                              refine v_aload_n F (pc := 290) dL_isFed_290 rfl ?_
                              refine v_iload F (pc := 291) dL_isFed_291 rfl ?_
                              refine v_callV F (pc := 293) (As := [.int (iI (σ 10 K))]) (rest := []) ci_L_32 ct_X4_next cs_X4_next (N_nextk l g X7 (σ 10 K) hK.2.2.2.2.2.2.1 k0 (by omega) (by omega)) dL_isFed_293 (k0 := 7) rfl rfl o7 rfl rfl (Nat.le_of_ble_eq_true rfl) (Nat.le_of_ble_eq_true rfl) (Nat.le_of_ble_eq_true rfl) (show cl4 + 1 + 1 + 1 ≤ 830 by omega) (show sl4 + 6 + 6 + 6 ≤ 4980 by omega) (fun v_ h8 hp_ => ?_) (fun _ _ z => z.elim)
                              obtain ⟨rfl, X8⟩ := hp_
                              obtain ⟨fs8, o8⟩ := X8.obj
                              refine v_istore F (pc := 296) (lo' := [some (.ref x), some (.ref a), some (.int (iI (1))), some (.int (iI (NW σ (σ 5 0)))), some (.int (iI (WW σ (σ 5 0)))), some (.int (iI (NW σ (σ 5 0)))), some (.int (iI (0))), some (.int (iI (nxt σ (m_way σ K))))]) dL_isFed_296 (Nat.le_of_ble_eq_true rfl) rfl ?_
                              refine v_goto F (pc := 298) 229 dL_isFed_298 (by decide) ?_
                              exact ih4 h8 (m_way σ K) false (cl4 + 1 + 1 + 1) (sl4 + 6 + 6 + 6) X8 (by omega) (fun z1 z2 => by have q1 := hbb z1 z2; have q2 := (tk_all hIV k0 k1).2.2.2 z1 z2; simp_all) (by omega) (by omega) (by omega)
                            · refine v_aload_n F (pc := 276) dL_isFed_276 rfl ?_
                              refine v_iconst F (pc := 277) dL_isFed_277 ?_
                              refine v_callV F (pc := 278) (As := [.int (iI (1))]) (rest := []) ci_L_57 ct_X4_hasFailed cs_X4_hasFailed (N_hasFailed l g X7 1 (by omega)) dL_isFed_278 (k0 := 7) rfl rfl o7 rfl rfl (Nat.le_of_ble_eq_true rfl) (Nat.le_of_ble_eq_true rfl) (Nat.le_of_ble_eq_true rfl) (show cl4 + 1 + 1 + 1 ≤ 830 by omega) (show sl4 + 6 + 6 + 6 ≤ 4980 by omega) (fun v_ h9 hp_ => ?_) (fun _ _ z => z.elim)
                              obtain ⟨rfl, X9⟩ := hp_
                              obtain ⟨fs9, o9⟩ := X9.obj
                              refine v_if_eqB F (pc := 281) (b := (decide (σ 9 1 = 1))) 288 dL_isFed_281 (by decide) (fun c_16 => ?_) (fun c_16 => ?_)
                              · exfalso; rcases (tk_all hIV k0 k1).2.2.1 (by assumption) with z | z <;> simp_all
                              · refine v_iconst F (pc := 284) dL_isFed_284 ?_
                                refine v_goto F (pc := 285) 289 dL_isFed_285 (by decide) ?_
                                refine v_istore_n F (pc := 289) (lo' := [some (.ref x), some (.ref a), some (.int (iI (1))), some (.int (iI (NW σ (σ 5 0)))), some (.int (iI (WW σ (σ 5 0)))), some (.int (iI (NW σ (σ 5 0)))), some (.int (iI (0))), some (.int (iI (σ 10 K)))]) dL_isFed_289 (Nat.le_of_ble_eq_true rfl) rfl ?_
                                refine v_aload_n F (pc := 290) dL_isFed_290 rfl ?_
                                refine v_iload F (pc := 291) dL_isFed_291 rfl ?_
                                refine v_callV F (pc := 293) (As := [.int (iI (σ 10 K))]) (rest := []) ci_L_32 ct_X4_next cs_X4_next (N_nextk l g X9 (σ 10 K) hK.2.2.2.2.2.2.1 k0 (by omega) (by omega)) dL_isFed_293 (k0 := 7) rfl rfl o9 rfl rfl (Nat.le_of_ble_eq_true rfl) (Nat.le_of_ble_eq_true rfl) (Nat.le_of_ble_eq_true rfl) (show cl4 + 1 + 1 + 1 + 1 ≤ 830 by omega) (show sl4 + 6 + 6 + 6 + 6 ≤ 4980 by omega) (fun v_ h10 hp_ => ?_) (fun _ _ z => z.elim)
                                obtain ⟨rfl, X10⟩ := hp_
                                obtain ⟨fs10, o10⟩ := X10.obj
                                refine v_istore F (pc := 296) (lo' := [some (.ref x), some (.ref a), some (.int (iI (1))), some (.int (iI (NW σ (σ 5 0)))), some (.int (iI (WW σ (σ 5 0)))), some (.int (iI (NW σ (σ 5 0)))), some (.int (iI (0))), some (.int (iI (nxt σ (m_way σ K))))]) dL_isFed_296 (Nat.le_of_ble_eq_true rfl) rfl ?_
                                refine v_goto F (pc := 298) 229 dL_isFed_298 (by decide) ?_
                                exact ih4 h10 (m_way σ K) false (cl4 + 1 + 1 + 1 + 1) (sl4 + 6 + 6 + 6 + 6) X10 (by omega) (fun z1 z2 => by have q1 := hbb z1 z2; have q2 := (tk_all hIV k0 k1).2.2.2 z1 z2; simp_all) (by omega) (by omega) (by omega)
                      · refine v_aload_n F (pc := 239) dL_isFed_239 rfl ?_
                        refine v_iload F (pc := 240) dL_isFed_240 rfl ?_
                        refine v_callV F (pc := 242) (As := [.int (iI (σ 10 K))]) (rest := []) ci_L_64 ct_X4_isDark cs_X4_isDark (N_isDark l g Xq4 (σ 10 K) hK.2.2.2.2.2.2.1 k0 (by omega)) dL_isFed_242 (k0 := 7) rfl rfl oq4 rfl rfl (Nat.le_of_ble_eq_true rfl) (Nat.le_of_ble_eq_true rfl) (Nat.le_of_ble_eq_true rfl) (show cl4 + 1 ≤ 830 by omega) (show sl4 + 6 ≤ 4980 by omega) (fun v_ h11 hp_ => ?_) (fun _ _ z => z.elim)
                        obtain ⟨rfl, X11⟩ := hp_
                        obtain ⟨fs11, o11⟩ := X11.obj
                        refine v_if_eqB F (pc := 245) (b := (m_dark σ K)) 252 dL_isFed_245 (by decide) (fun c_17 => ?_) (fun c_17 => ?_)
                        · refine v_iconst F (pc := 252) dL_isFed_252 ?_
                          refine v_istore F (pc := 253) (lo' := [some (.ref x), some (.ref a), some (.int (iI (1))), some (.int (iI (NW σ (σ 5 0)))), some (.int (iI (WW σ (σ 5 0)))), some (.int (iI (NW σ (σ 5 0)))), some (.int (iI (0))), some (.int (iI (σ 10 K)))]) dL_isFed_253 (Nat.le_of_ble_eq_true rfl) rfl ?_
                          refine v_iload_n F (pc := 255) dL_isFed_255 rfl ?_
                          refine v_if_eq F (pc := 256) (a := 1) 288 dL_isFed_256 (by decide) (by omega) (fun c_18 => ?_) (fun c_18 => ?_)
                          · exact absurd c_18 (by decide)
                          · refine v_aload_n F (pc := 259) dL_isFed_259 rfl ?_
                            refine v_iload F (pc := 260) dL_isFed_260 rfl ?_
                            refine v_callV F (pc := 262) (As := [.int (iI (σ 10 K))]) (rest := []) ci_L_64 ct_X4_isDark cs_X4_isDark (N_isDark l g X11 (σ 10 K) hK.2.2.2.2.2.2.1 k0 (by omega)) dL_isFed_262 (k0 := 7) rfl rfl o11 rfl rfl (Nat.le_of_ble_eq_true rfl) (Nat.le_of_ble_eq_true rfl) (Nat.le_of_ble_eq_true rfl) (show cl4 + 1 + 1 ≤ 830 by omega) (show sl4 + 6 + 6 ≤ 4980 by omega) (fun v_ h12 hp_ => ?_) (fun _ _ z => z.elim)
                            obtain ⟨rfl, X12⟩ := hp_
                            obtain ⟨fs12, o12⟩ := X12.obj
                            refine v_if_eqB F (pc := 265) (b := (m_dark σ K)) 284 dL_isFed_265 (by decide) (fun c_19 => ?_) (fun c_19 => ?_)
                            · refine v_iconst F (pc := 284) dL_isFed_284 ?_
                              refine v_goto F (pc := 285) 289 dL_isFed_285 (by decide) ?_
                              refine v_istore_n F (pc := 289) (lo' := [some (.ref x), some (.ref a), some (.int (iI (1))), some (.int (iI (NW σ (σ 5 0)))), some (.int (iI (WW σ (σ 5 0)))), some (.int (iI (NW σ (σ 5 0)))), some (.int (iI (0))), some (.int (iI (σ 10 K)))]) dL_isFed_289 (Nat.le_of_ble_eq_true rfl) rfl ?_
                              refine v_aload_n F (pc := 290) dL_isFed_290 rfl ?_
                              refine v_iload F (pc := 291) dL_isFed_291 rfl ?_
                              refine v_callV F (pc := 293) (As := [.int (iI (σ 10 K))]) (rest := []) ci_L_32 ct_X4_next cs_X4_next (N_nextk l g X12 (σ 10 K) hK.2.2.2.2.2.2.1 k0 (by omega) (by omega)) dL_isFed_293 (k0 := 7) rfl rfl o12 rfl rfl (Nat.le_of_ble_eq_true rfl) (Nat.le_of_ble_eq_true rfl) (Nat.le_of_ble_eq_true rfl) (show cl4 + 1 + 1 + 1 ≤ 830 by omega) (show sl4 + 6 + 6 + 6 ≤ 4980 by omega) (fun v_ h13 hp_ => ?_) (fun _ _ z => z.elim)
                              obtain ⟨rfl, X13⟩ := hp_
                              obtain ⟨fs13, o13⟩ := X13.obj
                              refine v_istore F (pc := 296) (lo' := [some (.ref x), some (.ref a), some (.int (iI (1))), some (.int (iI (NW σ (σ 5 0)))), some (.int (iI (WW σ (σ 5 0)))), some (.int (iI (NW σ (σ 5 0)))), some (.int (iI (0))), some (.int (iI (nxt σ (m_way σ K))))]) dL_isFed_296 (Nat.le_of_ble_eq_true rfl) rfl ?_
                              refine v_goto F (pc := 298) 229 dL_isFed_298 (by decide) ?_
                              exact ih4 h13 (m_way σ K) false (cl4 + 1 + 1 + 1) (sl4 + 6 + 6 + 6) X13 (by omega) (fun z1 z2 => by have q1 := hbb z1 z2; have q2 := (tk_all hIV k0 k1).2.2.2 z1 z2; simp_all) (by omega) (by omega) (by omega)
                            · refine v_aload_n F (pc := 268) dL_isFed_268 rfl ?_
                              refine v_iconst F (pc := 269) dL_isFed_269 ?_
                              refine v_callV F (pc := 270) (As := [.int (iI (0))]) (rest := []) ci_L_57 ct_X4_hasFailed cs_X4_hasFailed (N_hasFailed l g X12 0 (by omega)) dL_isFed_270 (k0 := 7) rfl rfl o12 rfl rfl (Nat.le_of_ble_eq_true rfl) (Nat.le_of_ble_eq_true rfl) (Nat.le_of_ble_eq_true rfl) (show cl4 + 1 + 1 + 1 ≤ 830 by omega) (show sl4 + 6 + 6 + 6 ≤ 4980 by omega) (fun v_ h14 hp_ => ?_) (fun _ _ z => z.elim)
                              obtain ⟨rfl, X14⟩ := hp_
                              obtain ⟨fs14, o14⟩ := X14.obj
                              refine v_if_neB F (pc := 273) (b := (decide (σ 9 0 = 1))) 284 dL_isFed_273 (by decide) (fun c_20 => ?_) (fun c_20 => ?_)
                              · refine v_iconst F (pc := 284) dL_isFed_284 ?_
                                refine v_goto F (pc := 285) 289 dL_isFed_285 (by decide) ?_
                                refine v_istore_n F (pc := 289) (lo' := [some (.ref x), some (.ref a), some (.int (iI (1))), some (.int (iI (NW σ (σ 5 0)))), some (.int (iI (WW σ (σ 5 0)))), some (.int (iI (NW σ (σ 5 0)))), some (.int (iI (0))), some (.int (iI (σ 10 K)))]) dL_isFed_289 (Nat.le_of_ble_eq_true rfl) rfl ?_
                                refine v_aload_n F (pc := 290) dL_isFed_290 rfl ?_
                                refine v_iload F (pc := 291) dL_isFed_291 rfl ?_
                                refine v_callV F (pc := 293) (As := [.int (iI (σ 10 K))]) (rest := []) ci_L_32 ct_X4_next cs_X4_next (N_nextk l g X14 (σ 10 K) hK.2.2.2.2.2.2.1 k0 (by omega) (by omega)) dL_isFed_293 (k0 := 7) rfl rfl o14 rfl rfl (Nat.le_of_ble_eq_true rfl) (Nat.le_of_ble_eq_true rfl) (Nat.le_of_ble_eq_true rfl) (show cl4 + 1 + 1 + 1 + 1 ≤ 830 by omega) (show sl4 + 6 + 6 + 6 + 6 ≤ 4980 by omega) (fun v_ h15 hp_ => ?_) (fun _ _ z => z.elim)
                                obtain ⟨rfl, X15⟩ := hp_
                                obtain ⟨fs15, o15⟩ := X15.obj
                                refine v_istore F (pc := 296) (lo' := [some (.ref x), some (.ref a), some (.int (iI (1))), some (.int (iI (NW σ (σ 5 0)))), some (.int (iI (WW σ (σ 5 0)))), some (.int (iI (NW σ (σ 5 0)))), some (.int (iI (0))), some (.int (iI (nxt σ (m_way σ K))))]) dL_isFed_296 (Nat.le_of_ble_eq_true rfl) rfl ?_
                                refine v_goto F (pc := 298) 229 dL_isFed_298 (by decide) ?_
                                exact ih4 h15 (m_way σ K) false (cl4 + 1 + 1 + 1 + 1) (sl4 + 6 + 6 + 6 + 6) X15 (by omega) (fun z1 z2 => by have q1 := hbb z1 z2; have q2 := (tk_all hIV k0 k1).2.2.2 z1 z2; simp_all) (by omega) (by omega) (by omega)
                              · refine v_aload_n F (pc := 276) dL_isFed_276 rfl ?_
                                refine v_iconst F (pc := 277) dL_isFed_277 ?_
                                refine v_callV F (pc := 278) (As := [.int (iI (1))]) (rest := []) ci_L_57 ct_X4_hasFailed cs_X4_hasFailed (N_hasFailed l g X14 1 (by omega)) dL_isFed_278 (k0 := 7) rfl rfl o14 rfl rfl (Nat.le_of_ble_eq_true rfl) (Nat.le_of_ble_eq_true rfl) (Nat.le_of_ble_eq_true rfl) (show cl4 + 1 + 1 + 1 + 1 ≤ 830 by omega) (show sl4 + 6 + 6 + 6 + 6 ≤ 4980 by omega) (fun v_ h16 hp_ => ?_) (fun _ _ z => z.elim)
                                obtain ⟨rfl, X16⟩ := hp_
                                obtain ⟨fs16, o16⟩ := X16.obj
                                refine v_if_eqB F (pc := 281) (b := (decide (σ 9 1 = 1))) 288 dL_isFed_281 (by decide) (fun c_21 => ?_) (fun c_21 => ?_)
                                · exfalso; rcases (tk_all hIV k0 k1).2.2.1 (by assumption) with z | z <;> simp_all
                                · refine v_iconst F (pc := 284) dL_isFed_284 ?_
                                  refine v_goto F (pc := 285) 289 dL_isFed_285 (by decide) ?_
                                  refine v_istore_n F (pc := 289) (lo' := [some (.ref x), some (.ref a), some (.int (iI (1))), some (.int (iI (NW σ (σ 5 0)))), some (.int (iI (WW σ (σ 5 0)))), some (.int (iI (NW σ (σ 5 0)))), some (.int (iI (0))), some (.int (iI (σ 10 K)))]) dL_isFed_289 (Nat.le_of_ble_eq_true rfl) rfl ?_
                                  refine v_aload_n F (pc := 290) dL_isFed_290 rfl ?_
                                  refine v_iload F (pc := 291) dL_isFed_291 rfl ?_
                                  refine v_callV F (pc := 293) (As := [.int (iI (σ 10 K))]) (rest := []) ci_L_32 ct_X4_next cs_X4_next (N_nextk l g X16 (σ 10 K) hK.2.2.2.2.2.2.1 k0 (by omega) (by omega)) dL_isFed_293 (k0 := 7) rfl rfl o16 rfl rfl (Nat.le_of_ble_eq_true rfl) (Nat.le_of_ble_eq_true rfl) (Nat.le_of_ble_eq_true rfl) (show cl4 + 1 + 1 + 1 + 1 + 1 ≤ 830 by omega) (show sl4 + 6 + 6 + 6 + 6 + 6 ≤ 4980 by omega) (fun v_ h17 hp_ => ?_) (fun _ _ z => z.elim)
                                  obtain ⟨rfl, X17⟩ := hp_
                                  obtain ⟨fs17, o17⟩ := X17.obj
                                  refine v_istore F (pc := 296) (lo' := [some (.ref x), some (.ref a), some (.int (iI (1))), some (.int (iI (NW σ (σ 5 0)))), some (.int (iI (WW σ (σ 5 0)))), some (.int (iI (NW σ (σ 5 0)))), some (.int (iI (0))), some (.int (iI (nxt σ (m_way σ K))))]) dL_isFed_296 (Nat.le_of_ble_eq_true rfl) rfl ?_
                                  refine v_goto F (pc := 298) 229 dL_isFed_298 (by decide) ?_
                                  exact ih4 h17 (m_way σ K) false (cl4 + 1 + 1 + 1 + 1 + 1) (sl4 + 6 + 6 + 6 + 6 + 6) X17 (by omega) (fun z1 z2 => by have q1 := hbb z1 z2; have q2 := (tk_all hIV k0 k1).2.2.2 z1 z2; simp_all) (by omega) (by omega) (by omega)
                        · refine v_iconst F (pc := 248) dL_isFed_248 ?_
                          refine v_goto F (pc := 249) 253 dL_isFed_249 (by decide) ?_
                          refine v_istore F (pc := 253) (lo' := [some (.ref x), some (.ref a), some (.int (iI (1))), some (.int (iI (NW σ (σ 5 0)))), some (.int (iI (WW σ (σ 5 0)))), some (.int (iI (NW σ (σ 5 0)))), some (.int (iI (1))), some (.int (iI (σ 10 K)))]) dL_isFed_253 (Nat.le_of_ble_eq_true rfl) rfl ?_
                          refine v_iload_n F (pc := 255) dL_isFed_255 rfl ?_
                          refine v_if_eq F (pc := 256) (a := 1) 288 dL_isFed_256 (by decide) (by omega) (fun c_22 => ?_) (fun c_22 => ?_)
                          · exact absurd c_22 (by decide)
                          · refine v_aload_n F (pc := 259) dL_isFed_259 rfl ?_
                            refine v_iload F (pc := 260) dL_isFed_260 rfl ?_
                            refine v_callV F (pc := 262) (As := [.int (iI (σ 10 K))]) (rest := []) ci_L_64 ct_X4_isDark cs_X4_isDark (N_isDark l g X11 (σ 10 K) hK.2.2.2.2.2.2.1 k0 (by omega)) dL_isFed_262 (k0 := 7) rfl rfl o11 rfl rfl (Nat.le_of_ble_eq_true rfl) (Nat.le_of_ble_eq_true rfl) (Nat.le_of_ble_eq_true rfl) (show cl4 + 1 + 1 ≤ 830 by omega) (show sl4 + 6 + 6 ≤ 4980 by omega) (fun v_ h18 hp_ => ?_) (fun _ _ z => z.elim)
                            obtain ⟨rfl, X18⟩ := hp_
                            obtain ⟨fs18, o18⟩ := X18.obj
                            refine v_if_eqB F (pc := 265) (b := (m_dark σ K)) 284 dL_isFed_265 (by decide) (fun c_23 => ?_) (fun c_23 => ?_)
                            · refine v_iconst F (pc := 284) dL_isFed_284 ?_
                              refine v_goto F (pc := 285) 289 dL_isFed_285 (by decide) ?_
                              refine v_istore_n F (pc := 289) (lo' := [some (.ref x), some (.ref a), some (.int (iI (1))), some (.int (iI (NW σ (σ 5 0)))), some (.int (iI (WW σ (σ 5 0)))), some (.int (iI (NW σ (σ 5 0)))), some (.int (iI (1))), some (.int (iI (σ 10 K)))]) dL_isFed_289 (Nat.le_of_ble_eq_true rfl) rfl ?_
                              refine v_aload_n F (pc := 290) dL_isFed_290 rfl ?_
                              refine v_iload F (pc := 291) dL_isFed_291 rfl ?_
                              refine v_callV F (pc := 293) (As := [.int (iI (σ 10 K))]) (rest := []) ci_L_32 ct_X4_next cs_X4_next (N_nextk l g X18 (σ 10 K) hK.2.2.2.2.2.2.1 k0 (by omega) (by omega)) dL_isFed_293 (k0 := 7) rfl rfl o18 rfl rfl (Nat.le_of_ble_eq_true rfl) (Nat.le_of_ble_eq_true rfl) (Nat.le_of_ble_eq_true rfl) (show cl4 + 1 + 1 + 1 ≤ 830 by omega) (show sl4 + 6 + 6 + 6 ≤ 4980 by omega) (fun v_ h19 hp_ => ?_) (fun _ _ z => z.elim)
                              obtain ⟨rfl, X19⟩ := hp_
                              obtain ⟨fs19, o19⟩ := X19.obj
                              refine v_istore F (pc := 296) (lo' := [some (.ref x), some (.ref a), some (.int (iI (1))), some (.int (iI (NW σ (σ 5 0)))), some (.int (iI (WW σ (σ 5 0)))), some (.int (iI (NW σ (σ 5 0)))), some (.int (iI (1))), some (.int (iI (nxt σ (m_way σ K))))]) dL_isFed_296 (Nat.le_of_ble_eq_true rfl) rfl ?_
                              refine v_goto F (pc := 298) 229 dL_isFed_298 (by decide) ?_
                              exact ih4 h19 (m_way σ K) true (cl4 + 1 + 1 + 1) (sl4 + 6 + 6 + 6) X19 (by omega) (fun _ _ => rfl) (by omega) (by omega) (by omega)
                            · refine v_aload_n F (pc := 268) dL_isFed_268 rfl ?_
                              refine v_iconst F (pc := 269) dL_isFed_269 ?_
                              refine v_callV F (pc := 270) (As := [.int (iI (0))]) (rest := []) ci_L_57 ct_X4_hasFailed cs_X4_hasFailed (N_hasFailed l g X18 0 (by omega)) dL_isFed_270 (k0 := 7) rfl rfl o18 rfl rfl (Nat.le_of_ble_eq_true rfl) (Nat.le_of_ble_eq_true rfl) (Nat.le_of_ble_eq_true rfl) (show cl4 + 1 + 1 + 1 ≤ 830 by omega) (show sl4 + 6 + 6 + 6 ≤ 4980 by omega) (fun v_ h20 hp_ => ?_) (fun _ _ z => z.elim)
                              obtain ⟨rfl, X20⟩ := hp_
                              obtain ⟨fs20, o20⟩ := X20.obj
                              refine v_if_neB F (pc := 273) (b := (decide (σ 9 0 = 1))) 284 dL_isFed_273 (by decide) (fun c_24 => ?_) (fun c_24 => ?_)
                              · refine v_iconst F (pc := 284) dL_isFed_284 ?_
                                refine v_goto F (pc := 285) 289 dL_isFed_285 (by decide) ?_
                                refine v_istore_n F (pc := 289) (lo' := [some (.ref x), some (.ref a), some (.int (iI (1))), some (.int (iI (NW σ (σ 5 0)))), some (.int (iI (WW σ (σ 5 0)))), some (.int (iI (NW σ (σ 5 0)))), some (.int (iI (1))), some (.int (iI (σ 10 K)))]) dL_isFed_289 (Nat.le_of_ble_eq_true rfl) rfl ?_
                                refine v_aload_n F (pc := 290) dL_isFed_290 rfl ?_
                                refine v_iload F (pc := 291) dL_isFed_291 rfl ?_
                                refine v_callV F (pc := 293) (As := [.int (iI (σ 10 K))]) (rest := []) ci_L_32 ct_X4_next cs_X4_next (N_nextk l g X20 (σ 10 K) hK.2.2.2.2.2.2.1 k0 (by omega) (by omega)) dL_isFed_293 (k0 := 7) rfl rfl o20 rfl rfl (Nat.le_of_ble_eq_true rfl) (Nat.le_of_ble_eq_true rfl) (Nat.le_of_ble_eq_true rfl) (show cl4 + 1 + 1 + 1 + 1 ≤ 830 by omega) (show sl4 + 6 + 6 + 6 + 6 ≤ 4980 by omega) (fun v_ h21 hp_ => ?_) (fun _ _ z => z.elim)
                                obtain ⟨rfl, X21⟩ := hp_
                                obtain ⟨fs21, o21⟩ := X21.obj
                                refine v_istore F (pc := 296) (lo' := [some (.ref x), some (.ref a), some (.int (iI (1))), some (.int (iI (NW σ (σ 5 0)))), some (.int (iI (WW σ (σ 5 0)))), some (.int (iI (NW σ (σ 5 0)))), some (.int (iI (1))), some (.int (iI (nxt σ (m_way σ K))))]) dL_isFed_296 (Nat.le_of_ble_eq_true rfl) rfl ?_
                                refine v_goto F (pc := 298) 229 dL_isFed_298 (by decide) ?_
                                exact ih4 h21 (m_way σ K) true (cl4 + 1 + 1 + 1 + 1) (sl4 + 6 + 6 + 6 + 6) X21 (by omega) (fun _ _ => rfl) (by omega) (by omega) (by omega)
                              · refine v_aload_n F (pc := 276) dL_isFed_276 rfl ?_
                                refine v_iconst F (pc := 277) dL_isFed_277 ?_
                                refine v_callV F (pc := 278) (As := [.int (iI (1))]) (rest := []) ci_L_57 ct_X4_hasFailed cs_X4_hasFailed (N_hasFailed l g X20 1 (by omega)) dL_isFed_278 (k0 := 7) rfl rfl o20 rfl rfl (Nat.le_of_ble_eq_true rfl) (Nat.le_of_ble_eq_true rfl) (Nat.le_of_ble_eq_true rfl) (show cl4 + 1 + 1 + 1 + 1 ≤ 830 by omega) (show sl4 + 6 + 6 + 6 + 6 ≤ 4980 by omega) (fun v_ h22 hp_ => ?_) (fun _ _ z => z.elim)
                                obtain ⟨rfl, X22⟩ := hp_
                                obtain ⟨fs22, o22⟩ := X22.obj
                                refine v_if_eqB F (pc := 281) (b := (decide (σ 9 1 = 1))) 288 dL_isFed_281 (by decide) (fun c_25 => ?_) (fun c_25 => ?_)
                                · exfalso; rcases (tk_all hIV k0 k1).2.2.1 (by assumption) with z | z <;> simp_all
                                · refine v_iconst F (pc := 284) dL_isFed_284 ?_
                                  refine v_goto F (pc := 285) 289 dL_isFed_285 (by decide) ?_
                                  refine v_istore_n F (pc := 289) (lo' := [some (.ref x), some (.ref a), some (.int (iI (1))), some (.int (iI (NW σ (σ 5 0)))), some (.int (iI (WW σ (σ 5 0)))), some (.int (iI (NW σ (σ 5 0)))), some (.int (iI (1))), some (.int (iI (σ 10 K)))]) dL_isFed_289 (Nat.le_of_ble_eq_true rfl) rfl ?_
                                  refine v_aload_n F (pc := 290) dL_isFed_290 rfl ?_
                                  refine v_iload F (pc := 291) dL_isFed_291 rfl ?_
                                  refine v_callV F (pc := 293) (As := [.int (iI (σ 10 K))]) (rest := []) ci_L_32 ct_X4_next cs_X4_next (N_nextk l g X22 (σ 10 K) hK.2.2.2.2.2.2.1 k0 (by omega) (by omega)) dL_isFed_293 (k0 := 7) rfl rfl o22 rfl rfl (Nat.le_of_ble_eq_true rfl) (Nat.le_of_ble_eq_true rfl) (Nat.le_of_ble_eq_true rfl) (show cl4 + 1 + 1 + 1 + 1 + 1 ≤ 830 by omega) (show sl4 + 6 + 6 + 6 + 6 + 6 ≤ 4980 by omega) (fun v_ h23 hp_ => ?_) (fun _ _ z => z.elim)
                                  obtain ⟨rfl, X23⟩ := hp_
                                  obtain ⟨fs23, o23⟩ := X23.obj
                                  refine v_istore F (pc := 296) (lo' := [some (.ref x), some (.ref a), some (.int (iI (1))), some (.int (iI (NW σ (σ 5 0)))), some (.int (iI (WW σ (σ 5 0)))), some (.int (iI (NW σ (σ 5 0)))), some (.int (iI (1))), some (.int (iI (nxt σ (m_way σ K))))]) dL_isFed_296 (Nat.le_of_ble_eq_true rfl) rfl ?_
                                  refine v_goto F (pc := 298) 229 dL_isFed_298 (by decide) ?_
                                  exact ih4 h23 (m_way σ K) true (cl4 + 1 + 1 + 1 + 1 + 1) (sl4 + 6 + 6 + 6 + 6 + 6) X23 (by omega) (fun _ _ => rfl) (by omega) (by omega) (by omega)
              exact LP229 61 h2 (-1) true (cl3 + 1) (sl3 + 6) X2 (by omega) (fun _ _ => rfl) (by omega) (by omega) (by have := cw_rng hIV (-1 + 1); omega)
            · refine v_iload F (pc := 202) dL_isFed_202 rfl ?_
              refine v_aload_n F (pc := 204) dL_isFed_204 rfl ?_
              refine v_iload F (pc := 205) dL_isFed_205 rfl ?_
              refine v_callV F (pc := 207) (As := [.int (iI (row))]) (rest := [.int (iI (sm (fun w => HO σ w) row))]) ci_L_61 ct_X4_heatOf cs_X4_heatOf (N_heatOf l g Xq3 row (by omega)) dL_isFed_207 (k0 := 7) rfl rfl oq3 rfl rfl (Nat.le_of_ble_eq_true rfl) (Nat.le_of_ble_eq_true rfl) (Nat.le_of_ble_eq_true rfl) (show cl3 + 1 ≤ 830 by omega) (show sl3 + 6 ≤ 4980 by omega) (fun v_ h24 hp_ => ?_) (fun _ _ z => z.elim)
              obtain ⟨rfl, X24⟩ := hp_
              obtain ⟨fs24, o24⟩ := X24.obj
              refine v_iadd F (pc := 210) (a := sm (fun w => HO σ w) row) (b := HO σ row) dL_isFed_210 ?_
              refine v_istore F (pc := 211) (lo' := [some (.ref x), some (.ref a), some (.int (iI (1))), some (.int (iI (NW σ (σ 5 0)))), some (.int (iI (WW σ (σ 5 0)))), some (.int (iI ((sm (fun w => HO σ w) row) + (HO σ row)))), some (.int (iI (row))), none]) dL_isFed_211 (Nat.le_of_ble_eq_true rfl) rfl ?_
              refine v_iinc F (pc := 213) (lo' := [some (.ref x), some (.ref a), some (.int (iI (1))), some (.int (iI (NW σ (σ 5 0)))), some (.int (iI (WW σ (σ 5 0)))), some (.int (iI ((sm (fun w => HO σ w) row) + (HO σ row)))), some (.int (iI (row + 1))), none]) dL_isFed_213 rfl (Nat.le_of_ble_eq_true rfl) rfl ?_
              refine v_goto F (pc := 216) 196 dL_isFed_216 (by decide) ?_
              have k := ih3 h24 (row + 1) (cl3 + 1) (sl3 + 6) X24 (by omega) (by omega) (by omega) (by omega)
              rw [sm_s _ hrow.1] at k
              exact V.fg (k) ⟨rfl, ⟨rfl, ⟨rfl, ⟨rfl, ⟨rfl, ⟨rfl, ⟨rfl, trivial⟩⟩⟩⟩⟩⟩⟩
        rw [show r = σ 5 0 by omega]
        exact V.fg (LP196 5 h1 0 (cl) (sl) X1 (by omega) (by omega) (by omega) (by omega)) ⟨rfl, ⟨rfl, ⟨rfl, ⟨rfl, ⟨rfl, ⟨rfl, ⟨rfl, trivial⟩⟩⟩⟩⟩⟩⟩
      · have hml := hML.1 r hr.1 (by omega)
        have hw0 := m_worst_rng hIV.1 r 0
        have hw1 := m_worst_rng hIV.1 r 1
        have h4 : (0 : Int) ≤ σ 4 r ∧ σ 4 r ≤ 10000 := hIV.1 4 r hr.1 (show r < (8 : Int) by omega)
        refine v_iload_n F (pc := 22) dL_isFed_22 rfl ?_
        refine v_if_eq F (pc := 23) (a := 1) 193 dL_isFed_23 (by decide) (by omega) (fun c_26 => ?_) (fun c_26 => ?_)
        · exact absurd c_26 (by decide)
        · refine v_aload_n F (pc := 26) dL_isFed_26 rfl ?_
          refine v_iload F (pc := 27) dL_isFed_27 rfl ?_
          refine v_iconst F (pc := 29) dL_isFed_29 ?_
          refine v_callV F (pc := 30) (As := [.int (iI (r)), .int (iI (0))]) (rest := []) ci_L_51 ct_X4_worstOf cs_X4_worstOf (N_worstOf l g X1 r 0 (by omega) (by omega)) dL_isFed_30 (k0 := 7) rfl rfl o1 rfl rfl (Nat.le_of_ble_eq_true rfl) (Nat.le_of_ble_eq_true rfl) (Nat.le_of_ble_eq_true rfl) (show cl + 2 ≤ 830 by omega) (show sl + 12 ≤ 4980 by omega) (fun v_ h25 hp_ => ?_) (fun _ _ z => z.elim)
          obtain ⟨rfl, X25⟩ := hp_
          obtain ⟨fs25, o25⟩ := X25.obj
          refine v_aload_n F (pc := 33) dL_isFed_33 rfl ?_
          refine v_iload F (pc := 34) dL_isFed_34 rfl ?_
          refine v_iald F (pc := 36) (n := 8) (f := F0_) (z := r) dL_isFed_36 (X25.cel hk) (by omega) (by decide) ?_
          rw [hF r hr.1 (by omega)]
          refine v_icmp_gt F (pc := 37) (a := m_worst σ r 0) (b := σ 4 r) 58 dL_isFed_37 (by decide) (by omega) (by omega) (fun c_27 => ?_) (fun c_27 => ?_)
          · exfalso; omega
          · refine v_aload_n F (pc := 40) dL_isFed_40 rfl ?_
            refine v_iload F (pc := 41) dL_isFed_41 rfl ?_
            refine v_iconst F (pc := 43) dL_isFed_43 ?_
            refine v_callV F (pc := 44) (As := [.int (iI (r)), .int (iI (1))]) (rest := []) ci_L_51 ct_X4_worstOf cs_X4_worstOf (N_worstOf l g X25 r 1 (by omega) (by omega)) dL_isFed_44 (k0 := 7) rfl rfl o25 rfl rfl (Nat.le_of_ble_eq_true rfl) (Nat.le_of_ble_eq_true rfl) (Nat.le_of_ble_eq_true rfl) (show cl + 2 + 2 ≤ 830 by omega) (show sl + 12 + 12 ≤ 4980 by omega) (fun v_ h26 hp_ => ?_) (fun _ _ z => z.elim)
            obtain ⟨rfl, X26⟩ := hp_
            obtain ⟨fs26, o26⟩ := X26.obj
            refine v_aload_n F (pc := 47) dL_isFed_47 rfl ?_
            refine v_iload F (pc := 48) dL_isFed_48 rfl ?_
            refine v_iald F (pc := 50) (n := 8) (f := F0_) (z := r) dL_isFed_50 (X26.cel hk) (by omega) (by decide) ?_
            rw [hF r hr.1 (by omega)]
            refine v_icmp_gt F (pc := 51) (a := m_worst σ r 1) (b := σ 4 r) 58 dL_isFed_51 (by decide) (by omega) (by omega) (fun c_28 => ?_) (fun c_28 => ?_)
            · exfalso; omega
            · refine v_iconst F (pc := 54) dL_isFed_54 ?_
              refine v_goto F (pc := 55) 59 dL_isFed_55 (by decide) ?_
              refine v_istore_n F (pc := 59) (lo' := [some (.ref x), some (.ref a), some (.int (iI (1))), some (.int (iI (NW σ r))), some (.int (iI (WW σ r))), some (.int (iI (0))), some (.int (iI (r))), none]) dL_isFed_59 (Nat.le_of_ble_eq_true rfl) rfl ?_
              refine v_iconst F (pc := 60) dL_isFed_60 ?_
              refine v_istore F (pc := 61) (lo' := [some (.ref x), some (.ref a), some (.int (iI (1))), some (.int (iI (NW σ r))), some (.int (iI (WW σ r))), some (.int (iI (0))), some (.int (iI (r))), some (.int (iI (0)))]) dL_isFed_61 (Nat.le_of_ble_eq_true rfl) rfl ?_
              have LP63 : ∀ (N2_ : Nat) (hq2 : fH) (f : Int) (cl2 : Nat) (sl2 : Nat), (SL g x hq2 σ kf) → (0 ≤ f ∧ f ≤ 2) → (cl2 + 17 * N2_ ≤ cl + 56) → (sl2 + 102 * N2_ ≤ sl + 336) → (2 - f).toNat < N2_ → VE pX l eX ({ frames := 13, cells := 830, slots := 4980, locals := 207 }) sX mX ([.ref x, .ref a] : List Value).toArray bX tX cX 8 g AX (hq2) cl2 sl2 63 [some (.ref x), some (.ref a), some (.int (iI (1))), some (.int (iI (NW σ r + sm (fun f => PW σ r f) f))), some (.int (iI (WW σ r + sm (fun f => m_worst σ r f) f))), some (.int (iI (0))), some (.int (iI (r))), some (.int (iI (f)))] [] (fun v h1 => v = some (.int (iI 1)) ∧ SL g x h1 σ kf) (noX) 830 4980 := by
                intro N2_
                induction N2_ with
                | zero => intro hq2 f cl2 sl2 _ _ _ _ hm_; exact absurd hm_ (Nat.not_lt_zero _)
                | succ N2_ ih2 =>
                  intro hq2 f cl2 sl2 Xq2 hf2 hcl2 hsl2 hm2_
                  obtain ⟨fsq2, oq2⟩ := Xq2.obj
                  refine v_iload F (pc := 63) dL_isFed_63 rfl ?_
                  refine v_iconst F (pc := 65) dL_isFed_65 ?_
                  refine v_icmp_ge F (pc := 66) (a := f) (b := 2) 187 dL_isFed_66 (by decide) (by omega) (by omega) (fun c_29 => ?_) (fun c_29 => ?_)
                  · refine v_iinc F (pc := 187) (lo' := [some (.ref x), some (.ref a), some (.int (iI (1))), some (.int (iI (NW σ r + sm (fun f => PW σ r f) f))), some (.int (iI (WW σ r + sm (fun f => m_worst σ r f) f))), some (.int (iI (0))), some (.int (iI (r + 1))), some (.int (iI (f)))]) dL_isFed_187 rfl (Nat.le_of_ble_eq_true rfl) rfl ?_
                    refine v_goto F (pc := 190) 13 dL_isFed_190 (by decide) ?_
                    rw [show f = 2 by omega, ← nw_s σ hr.1, ← ww_s σ hr.1]
                    exact V.fg (ih hq2 (r + 1) (cl2) (sl2) Xq2 (by omega) (by omega) (by omega) (by omega)) ⟨rfl, ⟨rfl, ⟨rfl, ⟨rfl, ⟨rfl, ⟨rfl, ⟨rfl, trivial⟩⟩⟩⟩⟩⟩⟩
                  · have hpl := pw_le hIV (r := r) (f := f) hr.1 (by omega)
                    have hwr := m_worst_rng hIV.1 r f
                    have hpo := pw_off hIV (r := r) (f := f) (by omega)
                    have hpn := pw_on hIV (r := r) (f := f) hr.1 (by omega)
                    refine v_iload_n F (pc := 69) dL_isFed_69 rfl ?_
                    refine v_if_eq F (pc := 70) (a := 1) 155 dL_isFed_70 (by decide) (by omega) (fun c_30 => ?_) (fun c_30 => ?_)
                    · exact absurd c_30 (by decide)
                    · refine v_aload_n F (pc := 73) dL_isFed_73 rfl ?_
                      refine v_iload F (pc := 74) dL_isFed_74 rfl ?_
                      refine v_iload F (pc := 76) dL_isFed_76 rfl ?_
                      refine v_callV F (pc := 78) (As := [.int (iI (r)), .int (iI (f))]) (rest := []) ci_L_54 ct_X4_powerOf cs_X4_powerOf (N_powerOf l g Xq2 r f (by omega) (by omega)) dL_isFed_78 (k0 := 7) rfl rfl oq2 rfl rfl (Nat.le_of_ble_eq_true rfl) (Nat.le_of_ble_eq_true rfl) (Nat.le_of_ble_eq_true rfl) (show cl2 + 2 ≤ 830 by omega) (show sl2 + 12 ≤ 4980 by omega) (fun v_ h27 hp_ => ?_) (fun _ _ z => z.elim)
                      obtain ⟨rfl, X27⟩ := hp_
                      obtain ⟨fs27, o27⟩ := X27.obj
                      refine v_aload_n F (pc := 81) dL_isFed_81 rfl ?_
                      refine v_iload F (pc := 82) dL_isFed_82 rfl ?_
                      refine v_iload F (pc := 84) dL_isFed_84 rfl ?_
                      refine v_callV F (pc := 86) (As := [.int (iI (r)), .int (iI (f))]) (rest := [.int (iI (PW σ r f))]) ci_L_51 ct_X4_worstOf cs_X4_worstOf (N_worstOf l g X27 r f (by omega) (by omega)) dL_isFed_86 (k0 := 7) rfl rfl o27 rfl rfl (Nat.le_of_ble_eq_true rfl) (Nat.le_of_ble_eq_true rfl) (Nat.le_of_ble_eq_true rfl) (show cl2 + 2 + 2 ≤ 830 by omega) (show sl2 + 12 + 12 ≤ 4980 by omega) (fun v_ h28 hp_ => ?_) (fun _ _ z => z.elim)
                      obtain ⟨rfl, X28⟩ := hp_
                      obtain ⟨fs28, o28⟩ := X28.obj
                      refine v_icmp_gt F (pc := 89) (a := PW σ r f) (b := m_worst σ r f) 155 dL_isFed_89 (by decide) (by omega) (by omega) (fun c_31 => ?_) (fun c_31 => ?_)
                      · exfalso; omega
                      · refine v_aload_n F (pc := 92) dL_isFed_92 rfl ?_
                        refine v_iload F (pc := 93) dL_isFed_93 rfl ?_
                        refine v_callV F (pc := 95) (As := [.int (iI (f))]) (rest := []) ci_L_57 ct_X4_hasFailed cs_X4_hasFailed (N_hasFailed l g X28 f (by omega)) dL_isFed_95 (k0 := 7) rfl rfl o28 rfl rfl (Nat.le_of_ble_eq_true rfl) (Nat.le_of_ble_eq_true rfl) (Nat.le_of_ble_eq_true rfl) (show cl2 + 2 + 2 + 1 ≤ 830 by omega) (show sl2 + 12 + 12 + 6 ≤ 4980 by omega) (fun v_ h29 hp_ => ?_) (fun _ _ z => z.elim)
                        obtain ⟨rfl, X29⟩ := hp_
                        obtain ⟨fs29, o29⟩ := X29.obj
                        refine v_if_eqB F (pc := 98) (b := (decide (σ 9 f = 1))) 112 dL_isFed_98 (by decide) (fun c_32 => ?_) (fun c_32 => ?_)
                        · refine v_aload_n F (pc := 112) dL_isFed_112 rfl ?_
                          refine v_iload F (pc := 113) dL_isFed_113 rfl ?_
                          refine v_callV F (pc := 115) (As := [.int (iI (f))]) (rest := []) ci_L_57 ct_X4_hasFailed cs_X4_hasFailed (N_hasFailed l g X29 f (by omega)) dL_isFed_115 (k0 := 7) rfl rfl o29 rfl rfl (Nat.le_of_ble_eq_true rfl) (Nat.le_of_ble_eq_true rfl) (Nat.le_of_ble_eq_true rfl) (show cl2 + 2 + 2 + 1 + 1 ≤ 830 by omega) (show sl2 + 12 + 12 + 6 + 6 ≤ 4980 by omega) (fun v_ h30 hp_ => ?_) (fun _ _ z => z.elim)
                          obtain ⟨rfl, X30⟩ := hp_
                          obtain ⟨fs30, o30⟩ := X30.obj
                          refine v_if_neB F (pc := 118) (b := (decide (σ 9 f = 1))) 151 dL_isFed_118 (by decide) (fun c_33 => ?_) (fun c_33 => ?_)
                          · refine v_iconst F (pc := 151) dL_isFed_151 ?_
                            refine v_goto F (pc := 152) 156 dL_isFed_152 (by decide) ?_
                            refine v_istore_n F (pc := 156) (lo' := [some (.ref x), some (.ref a), some (.int (iI (1))), some (.int (iI (NW σ r + sm (fun f => PW σ r f) f))), some (.int (iI (WW σ r + sm (fun f => m_worst σ r f) f))), some (.int (iI (0))), some (.int (iI (r))), some (.int (iI (f)))]) dL_isFed_156 (Nat.le_of_ble_eq_true rfl) rfl ?_
                            refine v_iload_n F (pc := 157) dL_isFed_157 rfl ?_
                            refine v_aload_n F (pc := 158) dL_isFed_158 rfl ?_
                            refine v_iload F (pc := 159) dL_isFed_159 rfl ?_
                            refine v_iload F (pc := 161) dL_isFed_161 rfl ?_
                            refine v_callV F (pc := 163) (As := [.int (iI (r)), .int (iI (f))]) (rest := [.int (iI (NW σ r + sm (fun f => PW σ r f) f))]) ci_L_54 ct_X4_powerOf cs_X4_powerOf (N_powerOf l g X30 r f (by omega) (by omega)) dL_isFed_163 (k0 := 7) rfl rfl o30 rfl rfl (Nat.le_of_ble_eq_true rfl) (Nat.le_of_ble_eq_true rfl) (Nat.le_of_ble_eq_true rfl) (show cl2 + 2 + 2 + 1 + 1 + 2 ≤ 830 by omega) (show sl2 + 12 + 12 + 6 + 6 + 12 ≤ 4980 by omega) (fun v_ h31 hp_ => ?_) (fun _ _ z => z.elim)
                            obtain ⟨rfl, X31⟩ := hp_
                            obtain ⟨fs31, o31⟩ := X31.obj
                            refine v_iadd F (pc := 166) (a := NW σ r + sm (fun f => PW σ r f) f) (b := PW σ r f) dL_isFed_166 ?_
                            refine v_istore_n F (pc := 167) (lo' := [some (.ref x), some (.ref a), some (.int (iI (1))), some (.int (iI ((NW σ r + sm (fun f => PW σ r f) f) + (PW σ r f)))), some (.int (iI (WW σ r + sm (fun f => m_worst σ r f) f))), some (.int (iI (0))), some (.int (iI (r))), some (.int (iI (f)))]) dL_isFed_167 (Nat.le_of_ble_eq_true rfl) rfl ?_
                            refine v_iload F (pc := 168) dL_isFed_168 rfl ?_
                            refine v_aload_n F (pc := 170) dL_isFed_170 rfl ?_
                            refine v_iload F (pc := 171) dL_isFed_171 rfl ?_
                            refine v_iload F (pc := 173) dL_isFed_173 rfl ?_
                            refine v_callV F (pc := 175) (As := [.int (iI (r)), .int (iI (f))]) (rest := [.int (iI (WW σ r + sm (fun f => m_worst σ r f) f))]) ci_L_51 ct_X4_worstOf cs_X4_worstOf (N_worstOf l g X31 r f (by omega) (by omega)) dL_isFed_175 (k0 := 7) rfl rfl o31 rfl rfl (Nat.le_of_ble_eq_true rfl) (Nat.le_of_ble_eq_true rfl) (Nat.le_of_ble_eq_true rfl) (show cl2 + 2 + 2 + 1 + 1 + 2 + 2 ≤ 830 by omega) (show sl2 + 12 + 12 + 6 + 6 + 12 + 12 ≤ 4980 by omega) (fun v_ h32 hp_ => ?_) (fun _ _ z => z.elim)
                            obtain ⟨rfl, X32⟩ := hp_
                            obtain ⟨fs32, o32⟩ := X32.obj
                            refine v_iadd F (pc := 178) (a := WW σ r + sm (fun f => m_worst σ r f) f) (b := m_worst σ r f) dL_isFed_178 ?_
                            refine v_istore F (pc := 179) (lo' := [some (.ref x), some (.ref a), some (.int (iI (1))), some (.int (iI ((NW σ r + sm (fun f => PW σ r f) f) + (PW σ r f)))), some (.int (iI ((WW σ r + sm (fun f => m_worst σ r f) f) + (m_worst σ r f)))), some (.int (iI (0))), some (.int (iI (r))), some (.int (iI (f)))]) dL_isFed_179 (Nat.le_of_ble_eq_true rfl) rfl ?_
                            refine v_iinc F (pc := 181) (lo' := [some (.ref x), some (.ref a), some (.int (iI (1))), some (.int (iI ((NW σ r + sm (fun f => PW σ r f) f) + (PW σ r f)))), some (.int (iI ((WW σ r + sm (fun f => m_worst σ r f) f) + (m_worst σ r f)))), some (.int (iI (0))), some (.int (iI (r))), some (.int (iI (f + 1)))]) dL_isFed_181 rfl (Nat.le_of_ble_eq_true rfl) rfl ?_
                            refine v_goto F (pc := 184) 63 dL_isFed_184 (by decide) ?_
                            have k := ih2 h32 (f + 1) (cl2 + 2 + 2 + 1 + 1 + 2 + 2) (sl2 + 12 + 12 + 6 + 6 + 12 + 12) X32 (by omega) (by omega) (by omega) (by omega)
                            rw [sm_s _ hf2.1, sm_s _ hf2.1, ← Int.add_assoc, ← Int.add_assoc] at k
                            exact k
                          · have q9 := of_decide_eq_false c_33
                            refine v_aload_n F (pc := 121) dL_isFed_121 rfl ?_
                            refine v_iconst F (pc := 122) dL_isFed_122 ?_
                            refine v_iload F (pc := 123) dL_isFed_123 rfl ?_
                            refine v_isub F (pc := 125) (a := 1) (b := f) dL_isFed_125 ?_
                            refine v_callV F (pc := 126) (As := [.int (iI (1 - f))]) (rest := []) ci_L_57 ct_X4_hasFailed cs_X4_hasFailed (N_hasFailed l g X30 (1 - f) (by omega)) dL_isFed_126 (k0 := 7) rfl rfl o30 rfl rfl (Nat.le_of_ble_eq_true rfl) (Nat.le_of_ble_eq_true rfl) (Nat.le_of_ble_eq_true rfl) (show cl2 + 2 + 2 + 1 + 1 + 1 ≤ 830 by omega) (show sl2 + 12 + 12 + 6 + 6 + 6 ≤ 4980 by omega) (fun v_ h33 hp_ => ?_) (fun _ _ z => z.elim)
                            obtain ⟨rfl, X33⟩ := hp_
                            obtain ⟨fs33, o33⟩ := X33.obj
                            refine v_if_eqB F (pc := 129) (b := (decide (σ 9 (1 - f) = 1))) 151 dL_isFed_129 (by decide) (fun c_34 => ?_) (fun c_34 => ?_)
                            · refine v_iconst F (pc := 151) dL_isFed_151 ?_
                              refine v_goto F (pc := 152) 156 dL_isFed_152 (by decide) ?_
                              refine v_istore_n F (pc := 156) (lo' := [some (.ref x), some (.ref a), some (.int (iI (1))), some (.int (iI (NW σ r + sm (fun f => PW σ r f) f))), some (.int (iI (WW σ r + sm (fun f => m_worst σ r f) f))), some (.int (iI (0))), some (.int (iI (r))), some (.int (iI (f)))]) dL_isFed_156 (Nat.le_of_ble_eq_true rfl) rfl ?_
                              refine v_iload_n F (pc := 157) dL_isFed_157 rfl ?_
                              refine v_aload_n F (pc := 158) dL_isFed_158 rfl ?_
                              refine v_iload F (pc := 159) dL_isFed_159 rfl ?_
                              refine v_iload F (pc := 161) dL_isFed_161 rfl ?_
                              refine v_callV F (pc := 163) (As := [.int (iI (r)), .int (iI (f))]) (rest := [.int (iI (NW σ r + sm (fun f => PW σ r f) f))]) ci_L_54 ct_X4_powerOf cs_X4_powerOf (N_powerOf l g X33 r f (by omega) (by omega)) dL_isFed_163 (k0 := 7) rfl rfl o33 rfl rfl (Nat.le_of_ble_eq_true rfl) (Nat.le_of_ble_eq_true rfl) (Nat.le_of_ble_eq_true rfl) (show cl2 + 2 + 2 + 1 + 1 + 1 + 2 ≤ 830 by omega) (show sl2 + 12 + 12 + 6 + 6 + 6 + 12 ≤ 4980 by omega) (fun v_ h34 hp_ => ?_) (fun _ _ z => z.elim)
                              obtain ⟨rfl, X34⟩ := hp_
                              obtain ⟨fs34, o34⟩ := X34.obj
                              refine v_iadd F (pc := 166) (a := NW σ r + sm (fun f => PW σ r f) f) (b := PW σ r f) dL_isFed_166 ?_
                              refine v_istore_n F (pc := 167) (lo' := [some (.ref x), some (.ref a), some (.int (iI (1))), some (.int (iI ((NW σ r + sm (fun f => PW σ r f) f) + (PW σ r f)))), some (.int (iI (WW σ r + sm (fun f => m_worst σ r f) f))), some (.int (iI (0))), some (.int (iI (r))), some (.int (iI (f)))]) dL_isFed_167 (Nat.le_of_ble_eq_true rfl) rfl ?_
                              refine v_iload F (pc := 168) dL_isFed_168 rfl ?_
                              refine v_aload_n F (pc := 170) dL_isFed_170 rfl ?_
                              refine v_iload F (pc := 171) dL_isFed_171 rfl ?_
                              refine v_iload F (pc := 173) dL_isFed_173 rfl ?_
                              refine v_callV F (pc := 175) (As := [.int (iI (r)), .int (iI (f))]) (rest := [.int (iI (WW σ r + sm (fun f => m_worst σ r f) f))]) ci_L_51 ct_X4_worstOf cs_X4_worstOf (N_worstOf l g X34 r f (by omega) (by omega)) dL_isFed_175 (k0 := 7) rfl rfl o34 rfl rfl (Nat.le_of_ble_eq_true rfl) (Nat.le_of_ble_eq_true rfl) (Nat.le_of_ble_eq_true rfl) (show cl2 + 2 + 2 + 1 + 1 + 1 + 2 + 2 ≤ 830 by omega) (show sl2 + 12 + 12 + 6 + 6 + 6 + 12 + 12 ≤ 4980 by omega) (fun v_ h35 hp_ => ?_) (fun _ _ z => z.elim)
                              obtain ⟨rfl, X35⟩ := hp_
                              obtain ⟨fs35, o35⟩ := X35.obj
                              refine v_iadd F (pc := 178) (a := WW σ r + sm (fun f => m_worst σ r f) f) (b := m_worst σ r f) dL_isFed_178 ?_
                              refine v_istore F (pc := 179) (lo' := [some (.ref x), some (.ref a), some (.int (iI (1))), some (.int (iI ((NW σ r + sm (fun f => PW σ r f) f) + (PW σ r f)))), some (.int (iI ((WW σ r + sm (fun f => m_worst σ r f) f) + (m_worst σ r f)))), some (.int (iI (0))), some (.int (iI (r))), some (.int (iI (f)))]) dL_isFed_179 (Nat.le_of_ble_eq_true rfl) rfl ?_
                              refine v_iinc F (pc := 181) (lo' := [some (.ref x), some (.ref a), some (.int (iI (1))), some (.int (iI ((NW σ r + sm (fun f => PW σ r f) f) + (PW σ r f)))), some (.int (iI ((WW σ r + sm (fun f => m_worst σ r f) f) + (m_worst σ r f)))), some (.int (iI (0))), some (.int (iI (r))), some (.int (iI (f + 1)))]) dL_isFed_181 rfl (Nat.le_of_ble_eq_true rfl) rfl ?_
                              refine v_goto F (pc := 184) 63 dL_isFed_184 (by decide) ?_
                              have k := ih2 h35 (f + 1) (cl2 + 2 + 2 + 1 + 1 + 1 + 2 + 2) (sl2 + 12 + 12 + 6 + 6 + 6 + 12 + 12) X35 (by omega) (by omega) (by omega) (by omega)
                              rw [sm_s _ hf2.1, sm_s _ hf2.1, ← Int.add_assoc, ← Int.add_assoc] at k
                              exact k
                            · have hz2 := hpn q9 (of_decide_eq_true c_34)
                              refine v_aload_n F (pc := 132) dL_isFed_132 rfl ?_
                              refine v_iload F (pc := 133) dL_isFed_133 rfl ?_
                              refine v_iload F (pc := 135) dL_isFed_135 rfl ?_
                              refine v_callV F (pc := 137) (As := [.int (iI (r)), .int (iI (f))]) (rest := []) ci_L_54 ct_X4_powerOf cs_X4_powerOf (N_powerOf l g X33 r f (by omega) (by omega)) dL_isFed_137 (k0 := 7) rfl rfl o33 rfl rfl (Nat.le_of_ble_eq_true rfl) (Nat.le_of_ble_eq_true rfl) (Nat.le_of_ble_eq_true rfl) (show cl2 + 2 + 2 + 1 + 1 + 1 + 2 ≤ 830 by omega) (show sl2 + 12 + 12 + 6 + 6 + 6 + 12 ≤ 4980 by omega) (fun v_ h36 hp_ => ?_) (fun _ _ z => z.elim)
                              obtain ⟨rfl, X36⟩ := hp_
                              obtain ⟨fs36, o36⟩ := X36.obj
                              refine v_aload_n F (pc := 140) dL_isFed_140 rfl ?_
                              refine v_iload F (pc := 141) dL_isFed_141 rfl ?_
                              refine v_iload F (pc := 143) dL_isFed_143 rfl ?_
                              refine v_callV F (pc := 145) (As := [.int (iI (r)), .int (iI (f))]) (rest := [.int (iI (PW σ r f))]) ci_L_51 ct_X4_worstOf cs_X4_worstOf (N_worstOf l g X36 r f (by omega) (by omega)) dL_isFed_145 (k0 := 7) rfl rfl o36 rfl rfl (Nat.le_of_ble_eq_true rfl) (Nat.le_of_ble_eq_true rfl) (Nat.le_of_ble_eq_true rfl) (show cl2 + 2 + 2 + 1 + 1 + 1 + 2 + 2 ≤ 830 by omega) (show sl2 + 12 + 12 + 6 + 6 + 6 + 12 + 12 ≤ 4980 by omega) (fun v_ h37 hp_ => ?_) (fun _ _ z => z.elim)
                              obtain ⟨rfl, X37⟩ := hp_
                              obtain ⟨fs37, o37⟩ := X37.obj
                              refine v_icmp_ne F (pc := 148) (a := PW σ r f) (b := m_worst σ r f) 155 dL_isFed_148 (by decide) (by omega) (by omega) (fun c_35 => ?_) (fun c_35 => ?_)
                              · exfalso; omega
                              · refine v_iconst F (pc := 151) dL_isFed_151 ?_
                                refine v_goto F (pc := 152) 156 dL_isFed_152 (by decide) ?_
                                refine v_istore_n F (pc := 156) (lo' := [some (.ref x), some (.ref a), some (.int (iI (1))), some (.int (iI (NW σ r + sm (fun f => PW σ r f) f))), some (.int (iI (WW σ r + sm (fun f => m_worst σ r f) f))), some (.int (iI (0))), some (.int (iI (r))), some (.int (iI (f)))]) dL_isFed_156 (Nat.le_of_ble_eq_true rfl) rfl ?_
                                refine v_iload_n F (pc := 157) dL_isFed_157 rfl ?_
                                refine v_aload_n F (pc := 158) dL_isFed_158 rfl ?_
                                refine v_iload F (pc := 159) dL_isFed_159 rfl ?_
                                refine v_iload F (pc := 161) dL_isFed_161 rfl ?_
                                refine v_callV F (pc := 163) (As := [.int (iI (r)), .int (iI (f))]) (rest := [.int (iI (NW σ r + sm (fun f => PW σ r f) f))]) ci_L_54 ct_X4_powerOf cs_X4_powerOf (N_powerOf l g X37 r f (by omega) (by omega)) dL_isFed_163 (k0 := 7) rfl rfl o37 rfl rfl (Nat.le_of_ble_eq_true rfl) (Nat.le_of_ble_eq_true rfl) (Nat.le_of_ble_eq_true rfl) (show cl2 + 2 + 2 + 1 + 1 + 1 + 2 + 2 + 2 ≤ 830 by omega) (show sl2 + 12 + 12 + 6 + 6 + 6 + 12 + 12 + 12 ≤ 4980 by omega) (fun v_ h38 hp_ => ?_) (fun _ _ z => z.elim)
                                obtain ⟨rfl, X38⟩ := hp_
                                obtain ⟨fs38, o38⟩ := X38.obj
                                refine v_iadd F (pc := 166) (a := NW σ r + sm (fun f => PW σ r f) f) (b := PW σ r f) dL_isFed_166 ?_
                                refine v_istore_n F (pc := 167) (lo' := [some (.ref x), some (.ref a), some (.int (iI (1))), some (.int (iI ((NW σ r + sm (fun f => PW σ r f) f) + (PW σ r f)))), some (.int (iI (WW σ r + sm (fun f => m_worst σ r f) f))), some (.int (iI (0))), some (.int (iI (r))), some (.int (iI (f)))]) dL_isFed_167 (Nat.le_of_ble_eq_true rfl) rfl ?_
                                refine v_iload F (pc := 168) dL_isFed_168 rfl ?_
                                refine v_aload_n F (pc := 170) dL_isFed_170 rfl ?_
                                refine v_iload F (pc := 171) dL_isFed_171 rfl ?_
                                refine v_iload F (pc := 173) dL_isFed_173 rfl ?_
                                refine v_callV F (pc := 175) (As := [.int (iI (r)), .int (iI (f))]) (rest := [.int (iI (WW σ r + sm (fun f => m_worst σ r f) f))]) ci_L_51 ct_X4_worstOf cs_X4_worstOf (N_worstOf l g X38 r f (by omega) (by omega)) dL_isFed_175 (k0 := 7) rfl rfl o38 rfl rfl (Nat.le_of_ble_eq_true rfl) (Nat.le_of_ble_eq_true rfl) (Nat.le_of_ble_eq_true rfl) (show cl2 + 2 + 2 + 1 + 1 + 1 + 2 + 2 + 2 + 2 ≤ 830 by omega) (show sl2 + 12 + 12 + 6 + 6 + 6 + 12 + 12 + 12 + 12 ≤ 4980 by omega) (fun v_ h39 hp_ => ?_) (fun _ _ z => z.elim)
                                obtain ⟨rfl, X39⟩ := hp_
                                obtain ⟨fs39, o39⟩ := X39.obj
                                refine v_iadd F (pc := 178) (a := WW σ r + sm (fun f => m_worst σ r f) f) (b := m_worst σ r f) dL_isFed_178 ?_
                                refine v_istore F (pc := 179) (lo' := [some (.ref x), some (.ref a), some (.int (iI (1))), some (.int (iI ((NW σ r + sm (fun f => PW σ r f) f) + (PW σ r f)))), some (.int (iI ((WW σ r + sm (fun f => m_worst σ r f) f) + (m_worst σ r f)))), some (.int (iI (0))), some (.int (iI (r))), some (.int (iI (f)))]) dL_isFed_179 (Nat.le_of_ble_eq_true rfl) rfl ?_
                                refine v_iinc F (pc := 181) (lo' := [some (.ref x), some (.ref a), some (.int (iI (1))), some (.int (iI ((NW σ r + sm (fun f => PW σ r f) f) + (PW σ r f)))), some (.int (iI ((WW σ r + sm (fun f => m_worst σ r f) f) + (m_worst σ r f)))), some (.int (iI (0))), some (.int (iI (r))), some (.int (iI (f + 1)))]) dL_isFed_181 rfl (Nat.le_of_ble_eq_true rfl) rfl ?_
                                refine v_goto F (pc := 184) 63 dL_isFed_184 (by decide) ?_
                                have k := ih2 h39 (f + 1) (cl2 + 2 + 2 + 1 + 1 + 1 + 2 + 2 + 2 + 2) (sl2 + 12 + 12 + 6 + 6 + 6 + 12 + 12 + 12 + 12) X39 (by omega) (by omega) (by omega) (by omega)
                                rw [sm_s _ hf2.1, sm_s _ hf2.1, ← Int.add_assoc, ← Int.add_assoc] at k
                                exact k
                        · have hz := hpo (of_decide_eq_true c_32)
                          refine v_aload_n F (pc := 101) dL_isFed_101 rfl ?_
                          refine v_iload F (pc := 102) dL_isFed_102 rfl ?_
                          refine v_iload F (pc := 104) dL_isFed_104 rfl ?_
                          refine v_callV F (pc := 106) (As := [.int (iI (r)), .int (iI (f))]) (rest := []) ci_L_54 ct_X4_powerOf cs_X4_powerOf (N_powerOf l g X29 r f (by omega) (by omega)) dL_isFed_106 (k0 := 7) rfl rfl o29 rfl rfl (Nat.le_of_ble_eq_true rfl) (Nat.le_of_ble_eq_true rfl) (Nat.le_of_ble_eq_true rfl) (show cl2 + 2 + 2 + 1 + 2 ≤ 830 by omega) (show sl2 + 12 + 12 + 6 + 12 ≤ 4980 by omega) (fun v_ h40 hp_ => ?_) (fun _ _ z => z.elim)
                          obtain ⟨rfl, X40⟩ := hp_
                          obtain ⟨fs40, o40⟩ := X40.obj
                          refine v_if_ne F (pc := 109) (a := PW σ r f) 155 dL_isFed_109 (by decide) (by omega) (fun c_36 => ?_) (fun c_36 => ?_)
                          · exfalso; omega
                          · refine v_aload_n F (pc := 112) dL_isFed_112 rfl ?_
                            refine v_iload F (pc := 113) dL_isFed_113 rfl ?_
                            refine v_callV F (pc := 115) (As := [.int (iI (f))]) (rest := []) ci_L_57 ct_X4_hasFailed cs_X4_hasFailed (N_hasFailed l g X40 f (by omega)) dL_isFed_115 (k0 := 7) rfl rfl o40 rfl rfl (Nat.le_of_ble_eq_true rfl) (Nat.le_of_ble_eq_true rfl) (Nat.le_of_ble_eq_true rfl) (show cl2 + 2 + 2 + 1 + 2 + 1 ≤ 830 by omega) (show sl2 + 12 + 12 + 6 + 12 + 6 ≤ 4980 by omega) (fun v_ h41 hp_ => ?_) (fun _ _ z => z.elim)
                            obtain ⟨rfl, X41⟩ := hp_
                            obtain ⟨fs41, o41⟩ := X41.obj
                            refine v_if_neB F (pc := 118) (b := (decide (σ 9 f = 1))) 151 dL_isFed_118 (by decide) (fun c_37 => ?_) (fun c_37 => ?_)
                            · refine v_iconst F (pc := 151) dL_isFed_151 ?_
                              refine v_goto F (pc := 152) 156 dL_isFed_152 (by decide) ?_
                              refine v_istore_n F (pc := 156) (lo' := [some (.ref x), some (.ref a), some (.int (iI (1))), some (.int (iI (NW σ r + sm (fun f => PW σ r f) f))), some (.int (iI (WW σ r + sm (fun f => m_worst σ r f) f))), some (.int (iI (0))), some (.int (iI (r))), some (.int (iI (f)))]) dL_isFed_156 (Nat.le_of_ble_eq_true rfl) rfl ?_
                              refine v_iload_n F (pc := 157) dL_isFed_157 rfl ?_
                              refine v_aload_n F (pc := 158) dL_isFed_158 rfl ?_
                              refine v_iload F (pc := 159) dL_isFed_159 rfl ?_
                              refine v_iload F (pc := 161) dL_isFed_161 rfl ?_
                              refine v_callV F (pc := 163) (As := [.int (iI (r)), .int (iI (f))]) (rest := [.int (iI (NW σ r + sm (fun f => PW σ r f) f))]) ci_L_54 ct_X4_powerOf cs_X4_powerOf (N_powerOf l g X41 r f (by omega) (by omega)) dL_isFed_163 (k0 := 7) rfl rfl o41 rfl rfl (Nat.le_of_ble_eq_true rfl) (Nat.le_of_ble_eq_true rfl) (Nat.le_of_ble_eq_true rfl) (show cl2 + 2 + 2 + 1 + 2 + 1 + 2 ≤ 830 by omega) (show sl2 + 12 + 12 + 6 + 12 + 6 + 12 ≤ 4980 by omega) (fun v_ h42 hp_ => ?_) (fun _ _ z => z.elim)
                              obtain ⟨rfl, X42⟩ := hp_
                              obtain ⟨fs42, o42⟩ := X42.obj
                              refine v_iadd F (pc := 166) (a := NW σ r + sm (fun f => PW σ r f) f) (b := PW σ r f) dL_isFed_166 ?_
                              refine v_istore_n F (pc := 167) (lo' := [some (.ref x), some (.ref a), some (.int (iI (1))), some (.int (iI ((NW σ r + sm (fun f => PW σ r f) f) + (PW σ r f)))), some (.int (iI (WW σ r + sm (fun f => m_worst σ r f) f))), some (.int (iI (0))), some (.int (iI (r))), some (.int (iI (f)))]) dL_isFed_167 (Nat.le_of_ble_eq_true rfl) rfl ?_
                              refine v_iload F (pc := 168) dL_isFed_168 rfl ?_
                              refine v_aload_n F (pc := 170) dL_isFed_170 rfl ?_
                              refine v_iload F (pc := 171) dL_isFed_171 rfl ?_
                              refine v_iload F (pc := 173) dL_isFed_173 rfl ?_
                              refine v_callV F (pc := 175) (As := [.int (iI (r)), .int (iI (f))]) (rest := [.int (iI (WW σ r + sm (fun f => m_worst σ r f) f))]) ci_L_51 ct_X4_worstOf cs_X4_worstOf (N_worstOf l g X42 r f (by omega) (by omega)) dL_isFed_175 (k0 := 7) rfl rfl o42 rfl rfl (Nat.le_of_ble_eq_true rfl) (Nat.le_of_ble_eq_true rfl) (Nat.le_of_ble_eq_true rfl) (show cl2 + 2 + 2 + 1 + 2 + 1 + 2 + 2 ≤ 830 by omega) (show sl2 + 12 + 12 + 6 + 12 + 6 + 12 + 12 ≤ 4980 by omega) (fun v_ h43 hp_ => ?_) (fun _ _ z => z.elim)
                              obtain ⟨rfl, X43⟩ := hp_
                              obtain ⟨fs43, o43⟩ := X43.obj
                              refine v_iadd F (pc := 178) (a := WW σ r + sm (fun f => m_worst σ r f) f) (b := m_worst σ r f) dL_isFed_178 ?_
                              refine v_istore F (pc := 179) (lo' := [some (.ref x), some (.ref a), some (.int (iI (1))), some (.int (iI ((NW σ r + sm (fun f => PW σ r f) f) + (PW σ r f)))), some (.int (iI ((WW σ r + sm (fun f => m_worst σ r f) f) + (m_worst σ r f)))), some (.int (iI (0))), some (.int (iI (r))), some (.int (iI (f)))]) dL_isFed_179 (Nat.le_of_ble_eq_true rfl) rfl ?_
                              refine v_iinc F (pc := 181) (lo' := [some (.ref x), some (.ref a), some (.int (iI (1))), some (.int (iI ((NW σ r + sm (fun f => PW σ r f) f) + (PW σ r f)))), some (.int (iI ((WW σ r + sm (fun f => m_worst σ r f) f) + (m_worst σ r f)))), some (.int (iI (0))), some (.int (iI (r))), some (.int (iI (f + 1)))]) dL_isFed_181 rfl (Nat.le_of_ble_eq_true rfl) rfl ?_
                              refine v_goto F (pc := 184) 63 dL_isFed_184 (by decide) ?_
                              have k := ih2 h43 (f + 1) (cl2 + 2 + 2 + 1 + 2 + 1 + 2 + 2) (sl2 + 12 + 12 + 6 + 12 + 6 + 12 + 12) X43 (by omega) (by omega) (by omega) (by omega)
                              rw [sm_s _ hf2.1, sm_s _ hf2.1, ← Int.add_assoc, ← Int.add_assoc] at k
                              exact k
                            · have q9 := of_decide_eq_false c_37
                              refine v_aload_n F (pc := 121) dL_isFed_121 rfl ?_
                              refine v_iconst F (pc := 122) dL_isFed_122 ?_
                              refine v_iload F (pc := 123) dL_isFed_123 rfl ?_
                              refine v_isub F (pc := 125) (a := 1) (b := f) dL_isFed_125 ?_
                              refine v_callV F (pc := 126) (As := [.int (iI (1 - f))]) (rest := []) ci_L_57 ct_X4_hasFailed cs_X4_hasFailed (N_hasFailed l g X41 (1 - f) (by omega)) dL_isFed_126 (k0 := 7) rfl rfl o41 rfl rfl (Nat.le_of_ble_eq_true rfl) (Nat.le_of_ble_eq_true rfl) (Nat.le_of_ble_eq_true rfl) (show cl2 + 2 + 2 + 1 + 2 + 1 + 1 ≤ 830 by omega) (show sl2 + 12 + 12 + 6 + 12 + 6 + 6 ≤ 4980 by omega) (fun v_ h44 hp_ => ?_) (fun _ _ z => z.elim)
                              obtain ⟨rfl, X44⟩ := hp_
                              obtain ⟨fs44, o44⟩ := X44.obj
                              refine v_if_eqB F (pc := 129) (b := (decide (σ 9 (1 - f) = 1))) 151 dL_isFed_129 (by decide) (fun c_38 => ?_) (fun c_38 => ?_)
                              · refine v_iconst F (pc := 151) dL_isFed_151 ?_
                                refine v_goto F (pc := 152) 156 dL_isFed_152 (by decide) ?_
                                refine v_istore_n F (pc := 156) (lo' := [some (.ref x), some (.ref a), some (.int (iI (1))), some (.int (iI (NW σ r + sm (fun f => PW σ r f) f))), some (.int (iI (WW σ r + sm (fun f => m_worst σ r f) f))), some (.int (iI (0))), some (.int (iI (r))), some (.int (iI (f)))]) dL_isFed_156 (Nat.le_of_ble_eq_true rfl) rfl ?_
                                refine v_iload_n F (pc := 157) dL_isFed_157 rfl ?_
                                refine v_aload_n F (pc := 158) dL_isFed_158 rfl ?_
                                refine v_iload F (pc := 159) dL_isFed_159 rfl ?_
                                refine v_iload F (pc := 161) dL_isFed_161 rfl ?_
                                refine v_callV F (pc := 163) (As := [.int (iI (r)), .int (iI (f))]) (rest := [.int (iI (NW σ r + sm (fun f => PW σ r f) f))]) ci_L_54 ct_X4_powerOf cs_X4_powerOf (N_powerOf l g X44 r f (by omega) (by omega)) dL_isFed_163 (k0 := 7) rfl rfl o44 rfl rfl (Nat.le_of_ble_eq_true rfl) (Nat.le_of_ble_eq_true rfl) (Nat.le_of_ble_eq_true rfl) (show cl2 + 2 + 2 + 1 + 2 + 1 + 1 + 2 ≤ 830 by omega) (show sl2 + 12 + 12 + 6 + 12 + 6 + 6 + 12 ≤ 4980 by omega) (fun v_ h45 hp_ => ?_) (fun _ _ z => z.elim)
                                obtain ⟨rfl, X45⟩ := hp_
                                obtain ⟨fs45, o45⟩ := X45.obj
                                refine v_iadd F (pc := 166) (a := NW σ r + sm (fun f => PW σ r f) f) (b := PW σ r f) dL_isFed_166 ?_
                                refine v_istore_n F (pc := 167) (lo' := [some (.ref x), some (.ref a), some (.int (iI (1))), some (.int (iI ((NW σ r + sm (fun f => PW σ r f) f) + (PW σ r f)))), some (.int (iI (WW σ r + sm (fun f => m_worst σ r f) f))), some (.int (iI (0))), some (.int (iI (r))), some (.int (iI (f)))]) dL_isFed_167 (Nat.le_of_ble_eq_true rfl) rfl ?_
                                refine v_iload F (pc := 168) dL_isFed_168 rfl ?_
                                refine v_aload_n F (pc := 170) dL_isFed_170 rfl ?_
                                refine v_iload F (pc := 171) dL_isFed_171 rfl ?_
                                refine v_iload F (pc := 173) dL_isFed_173 rfl ?_
                                refine v_callV F (pc := 175) (As := [.int (iI (r)), .int (iI (f))]) (rest := [.int (iI (WW σ r + sm (fun f => m_worst σ r f) f))]) ci_L_51 ct_X4_worstOf cs_X4_worstOf (N_worstOf l g X45 r f (by omega) (by omega)) dL_isFed_175 (k0 := 7) rfl rfl o45 rfl rfl (Nat.le_of_ble_eq_true rfl) (Nat.le_of_ble_eq_true rfl) (Nat.le_of_ble_eq_true rfl) (show cl2 + 2 + 2 + 1 + 2 + 1 + 1 + 2 + 2 ≤ 830 by omega) (show sl2 + 12 + 12 + 6 + 12 + 6 + 6 + 12 + 12 ≤ 4980 by omega) (fun v_ h46 hp_ => ?_) (fun _ _ z => z.elim)
                                obtain ⟨rfl, X46⟩ := hp_
                                obtain ⟨fs46, o46⟩ := X46.obj
                                refine v_iadd F (pc := 178) (a := WW σ r + sm (fun f => m_worst σ r f) f) (b := m_worst σ r f) dL_isFed_178 ?_
                                refine v_istore F (pc := 179) (lo' := [some (.ref x), some (.ref a), some (.int (iI (1))), some (.int (iI ((NW σ r + sm (fun f => PW σ r f) f) + (PW σ r f)))), some (.int (iI ((WW σ r + sm (fun f => m_worst σ r f) f) + (m_worst σ r f)))), some (.int (iI (0))), some (.int (iI (r))), some (.int (iI (f)))]) dL_isFed_179 (Nat.le_of_ble_eq_true rfl) rfl ?_
                                refine v_iinc F (pc := 181) (lo' := [some (.ref x), some (.ref a), some (.int (iI (1))), some (.int (iI ((NW σ r + sm (fun f => PW σ r f) f) + (PW σ r f)))), some (.int (iI ((WW σ r + sm (fun f => m_worst σ r f) f) + (m_worst σ r f)))), some (.int (iI (0))), some (.int (iI (r))), some (.int (iI (f + 1)))]) dL_isFed_181 rfl (Nat.le_of_ble_eq_true rfl) rfl ?_
                                refine v_goto F (pc := 184) 63 dL_isFed_184 (by decide) ?_
                                have k := ih2 h46 (f + 1) (cl2 + 2 + 2 + 1 + 2 + 1 + 1 + 2 + 2) (sl2 + 12 + 12 + 6 + 12 + 6 + 6 + 12 + 12) X46 (by omega) (by omega) (by omega) (by omega)
                                rw [sm_s _ hf2.1, sm_s _ hf2.1, ← Int.add_assoc, ← Int.add_assoc] at k
                                exact k
                              · have hz2 := hpn q9 (of_decide_eq_true c_38)
                                refine v_aload_n F (pc := 132) dL_isFed_132 rfl ?_
                                refine v_iload F (pc := 133) dL_isFed_133 rfl ?_
                                refine v_iload F (pc := 135) dL_isFed_135 rfl ?_
                                refine v_callV F (pc := 137) (As := [.int (iI (r)), .int (iI (f))]) (rest := []) ci_L_54 ct_X4_powerOf cs_X4_powerOf (N_powerOf l g X44 r f (by omega) (by omega)) dL_isFed_137 (k0 := 7) rfl rfl o44 rfl rfl (Nat.le_of_ble_eq_true rfl) (Nat.le_of_ble_eq_true rfl) (Nat.le_of_ble_eq_true rfl) (show cl2 + 2 + 2 + 1 + 2 + 1 + 1 + 2 ≤ 830 by omega) (show sl2 + 12 + 12 + 6 + 12 + 6 + 6 + 12 ≤ 4980 by omega) (fun v_ h47 hp_ => ?_) (fun _ _ z => z.elim)
                                obtain ⟨rfl, X47⟩ := hp_
                                obtain ⟨fs47, o47⟩ := X47.obj
                                refine v_aload_n F (pc := 140) dL_isFed_140 rfl ?_
                                refine v_iload F (pc := 141) dL_isFed_141 rfl ?_
                                refine v_iload F (pc := 143) dL_isFed_143 rfl ?_
                                refine v_callV F (pc := 145) (As := [.int (iI (r)), .int (iI (f))]) (rest := [.int (iI (PW σ r f))]) ci_L_51 ct_X4_worstOf cs_X4_worstOf (N_worstOf l g X47 r f (by omega) (by omega)) dL_isFed_145 (k0 := 7) rfl rfl o47 rfl rfl (Nat.le_of_ble_eq_true rfl) (Nat.le_of_ble_eq_true rfl) (Nat.le_of_ble_eq_true rfl) (show cl2 + 2 + 2 + 1 + 2 + 1 + 1 + 2 + 2 ≤ 830 by omega) (show sl2 + 12 + 12 + 6 + 12 + 6 + 6 + 12 + 12 ≤ 4980 by omega) (fun v_ h48 hp_ => ?_) (fun _ _ z => z.elim)
                                obtain ⟨rfl, X48⟩ := hp_
                                obtain ⟨fs48, o48⟩ := X48.obj
                                refine v_icmp_ne F (pc := 148) (a := PW σ r f) (b := m_worst σ r f) 155 dL_isFed_148 (by decide) (by omega) (by omega) (fun c_39 => ?_) (fun c_39 => ?_)
                                · exfalso; omega
                                · refine v_iconst F (pc := 151) dL_isFed_151 ?_
                                  refine v_goto F (pc := 152) 156 dL_isFed_152 (by decide) ?_
                                  refine v_istore_n F (pc := 156) (lo' := [some (.ref x), some (.ref a), some (.int (iI (1))), some (.int (iI (NW σ r + sm (fun f => PW σ r f) f))), some (.int (iI (WW σ r + sm (fun f => m_worst σ r f) f))), some (.int (iI (0))), some (.int (iI (r))), some (.int (iI (f)))]) dL_isFed_156 (Nat.le_of_ble_eq_true rfl) rfl ?_
                                  refine v_iload_n F (pc := 157) dL_isFed_157 rfl ?_
                                  refine v_aload_n F (pc := 158) dL_isFed_158 rfl ?_
                                  refine v_iload F (pc := 159) dL_isFed_159 rfl ?_
                                  refine v_iload F (pc := 161) dL_isFed_161 rfl ?_
                                  refine v_callV F (pc := 163) (As := [.int (iI (r)), .int (iI (f))]) (rest := [.int (iI (NW σ r + sm (fun f => PW σ r f) f))]) ci_L_54 ct_X4_powerOf cs_X4_powerOf (N_powerOf l g X48 r f (by omega) (by omega)) dL_isFed_163 (k0 := 7) rfl rfl o48 rfl rfl (Nat.le_of_ble_eq_true rfl) (Nat.le_of_ble_eq_true rfl) (Nat.le_of_ble_eq_true rfl) (show cl2 + 2 + 2 + 1 + 2 + 1 + 1 + 2 + 2 + 2 ≤ 830 by omega) (show sl2 + 12 + 12 + 6 + 12 + 6 + 6 + 12 + 12 + 12 ≤ 4980 by omega) (fun v_ h49 hp_ => ?_) (fun _ _ z => z.elim)
                                  obtain ⟨rfl, X49⟩ := hp_
                                  obtain ⟨fs49, o49⟩ := X49.obj
                                  refine v_iadd F (pc := 166) (a := NW σ r + sm (fun f => PW σ r f) f) (b := PW σ r f) dL_isFed_166 ?_
                                  refine v_istore_n F (pc := 167) (lo' := [some (.ref x), some (.ref a), some (.int (iI (1))), some (.int (iI ((NW σ r + sm (fun f => PW σ r f) f) + (PW σ r f)))), some (.int (iI (WW σ r + sm (fun f => m_worst σ r f) f))), some (.int (iI (0))), some (.int (iI (r))), some (.int (iI (f)))]) dL_isFed_167 (Nat.le_of_ble_eq_true rfl) rfl ?_
                                  refine v_iload F (pc := 168) dL_isFed_168 rfl ?_
                                  refine v_aload_n F (pc := 170) dL_isFed_170 rfl ?_
                                  refine v_iload F (pc := 171) dL_isFed_171 rfl ?_
                                  refine v_iload F (pc := 173) dL_isFed_173 rfl ?_
                                  refine v_callV F (pc := 175) (As := [.int (iI (r)), .int (iI (f))]) (rest := [.int (iI (WW σ r + sm (fun f => m_worst σ r f) f))]) ci_L_51 ct_X4_worstOf cs_X4_worstOf (N_worstOf l g X49 r f (by omega) (by omega)) dL_isFed_175 (k0 := 7) rfl rfl o49 rfl rfl (Nat.le_of_ble_eq_true rfl) (Nat.le_of_ble_eq_true rfl) (Nat.le_of_ble_eq_true rfl) (show cl2 + 2 + 2 + 1 + 2 + 1 + 1 + 2 + 2 + 2 + 2 ≤ 830 by omega) (show sl2 + 12 + 12 + 6 + 12 + 6 + 6 + 12 + 12 + 12 + 12 ≤ 4980 by omega) (fun v_ h50 hp_ => ?_) (fun _ _ z => z.elim)
                                  obtain ⟨rfl, X50⟩ := hp_
                                  obtain ⟨fs50, o50⟩ := X50.obj
                                  refine v_iadd F (pc := 178) (a := WW σ r + sm (fun f => m_worst σ r f) f) (b := m_worst σ r f) dL_isFed_178 ?_
                                  refine v_istore F (pc := 179) (lo' := [some (.ref x), some (.ref a), some (.int (iI (1))), some (.int (iI ((NW σ r + sm (fun f => PW σ r f) f) + (PW σ r f)))), some (.int (iI ((WW σ r + sm (fun f => m_worst σ r f) f) + (m_worst σ r f)))), some (.int (iI (0))), some (.int (iI (r))), some (.int (iI (f)))]) dL_isFed_179 (Nat.le_of_ble_eq_true rfl) rfl ?_
                                  refine v_iinc F (pc := 181) (lo' := [some (.ref x), some (.ref a), some (.int (iI (1))), some (.int (iI ((NW σ r + sm (fun f => PW σ r f) f) + (PW σ r f)))), some (.int (iI ((WW σ r + sm (fun f => m_worst σ r f) f) + (m_worst σ r f)))), some (.int (iI (0))), some (.int (iI (r))), some (.int (iI (f + 1)))]) dL_isFed_181 rfl (Nat.le_of_ble_eq_true rfl) rfl ?_
                                  refine v_goto F (pc := 184) 63 dL_isFed_184 (by decide) ?_
                                  have k := ih2 h50 (f + 1) (cl2 + 2 + 2 + 1 + 2 + 1 + 1 + 2 + 2 + 2 + 2) (sl2 + 12 + 12 + 6 + 12 + 6 + 6 + 12 + 12 + 12 + 12) X50 (by omega) (by omega) (by omega) (by omega)
                                  rw [sm_s _ hf2.1, sm_s _ hf2.1, ← Int.add_assoc, ← Int.add_assoc] at k
                                  exact k
              have k := LP63 3 h26 0 (cl + 2 + 2) (sl + 12 + 12) X26 (by omega) (by omega) (by omega) (by omega)
              rw [sm_0, sm_0, Int.add_zero, Int.add_zero] at k
              exact k
  exact V.fg (LP13 9 h 0 0 0 hX (by omega) (by decide) (by decide) (by omega)) ⟨rfl, ⟨rfl, ⟨rfl, ⟨rfl, ⟨rfl, ⟨rfl, ⟨rfl, trivial⟩⟩⟩⟩⟩⟩⟩
