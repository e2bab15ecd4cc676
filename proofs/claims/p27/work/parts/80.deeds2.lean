/-! ===== the law: place, takeOut, cord ===== -/
-- the law, from 413
set_option maxRecDepth 100000 in
set_option maxHeartbeats 8000000 in
theorem D_place {pX : Program} {l : Launch} {eX : Env} {sS : State} {mX : MethodId} {args : Array Value} {below : List Frame} {meth : Method} {cX : Code} {Q : State → Prop} {g : gT} {AX : Nat → Prop} (F : Fx pX l sS mX args meth cX cL_law 24 ret RL g AX) {x a2 a3 a4 a5 b : Nat} {h0 : fH} {σ : sT} {k0 : fH} (X0 : SL g x h0 σ k0) (hAR : AR g k0 a2 a3 a4 a5 σ) {tn t y sz pw wt cd : Int} (hkd : cKD sz pw wt cd) (hgv : σ 18 0 < 1000) (hy : -2147483648 ≤ y ∧ y ≤ 2147483647) {cells slots : Nat} (hc : cells + 130 ≤ 674477) (hs : slots + 18100 ≤ 7078194)  (kk : ∀ (h2 : fH) (σ2 : sT) (k2 : fH), SL g x h2 σ2 k2 → AR g k2 a2 a3 a4 a5 σ2 → 0 ≤ σ2 18 0 → σ2 18 0 ≤ σ 18 0 + 1 → V pX l eX room_1 sS mX args below meth cX Q 24 g AX h2 (cells + 130) (slots + 18100) 1144 [some (.ref b), some (.ref x), some (.ref a2), some (.ref a3), some (.ref a4), some (.ref a5), some (.int (iI (σ2 18 0))), some (.int (iI (1))), some (.int (iI (tn))), some (.int (iI (t))), none, none, none, some (.int (iI (sz))), some (.int (iI (pw))), some (.int (iI (wt))), some (.int (iI (cd))), none, none, none, none, none, none, none] []) : V pX l eX room_1 sS mX args below meth cX Q 24 g AX (h0) (cells) (slots) 413 [some (.ref b), some (.ref x), some (.ref a2), some (.ref a3), some (.ref a4), some (.ref a5), some (.int (iI (σ 18 0))), some (.int (iI (1))), some (.int (iI (tn))), some (.int (iI (t))), none, some (.int (iI (y))), none, some (.int (iI (sz))), some (.int (iI (pw))), some (.int (iI (wt))), some (.int (iI (cd))), none, none, some (.int (iI (σ 17 0))), none, none, none, none] [] := by
  have hIV := X0.iv
  have hm := mb_nm hIV.1
  have hn := mb_nr hIV.1
  have h18 : (0 : Int) ≤ σ 18 0 := (hIV.1 18 0 (by decide) (by decide)).1
  have hAR0 := hAR
  obtain ⟨⟨d23, d24, d25, d34, d35, d45⟩, SF, LF, WF, MF, q2, q3, q4, q5, hS, hM⟩ := hAR
  obtain ⟨fs0, o0⟩ := X0.obj
  refine v_aload_n F (pc := 413) dL_law_413 rfl ?_
  refine v_iload F (pc := 414) dL_law_414 rfl ?_
  refine v_iload F (pc := 416) dL_law_416 rfl ?_
  refine v_iload F (pc := 418) dL_law_418 rfl ?_
  refine v_iload F (pc := 420) dL_law_420 rfl ?_
  refine v_callW F (pc := 422) (n := 5) (As := [.ref x, .int (iI (sz)), .int (iI (pw)), .int (iI (wt)), .int (iI (cd))]) (rest := []) lm_places lx_L lc_places ⟨by decide, by decide, by decide +kernel⟩ ls_places (KH_places l g X0 sz pw wt cd hkd (by omega)) dL_law_422 rfl rfl (Nat.le_of_ble_eq_true rfl) (Nat.le_of_ble_eq_true rfl) (Nat.le_of_ble_eq_true rfl) (show cells + 6 ≤ 674477 by omega) (show slots + 181 ≤ 7078194 by omega) (fun v_ h1 hp_ => ?_)
  obtain ⟨rfl, X1⟩ := hp_
  obtain ⟨fs1, o1⟩ := X1.obj
  obtain ⟨σ1, hs1⟩ : ∃ z, pl_s σ sz pw wt cd = z := ⟨_, rfl⟩
  rw [hs1] at X1
  have hIV1 := X1.iv
  by_cases hpc : pl_c σ sz pw wt cd = 0
  · rw [show (if pl_c σ sz pw wt cd = 0 then σ 18 0 else (-3 : Int)) = σ 18 0 from if_pos hpc]
    obtain ⟨hP1, hP2, hP3, hG⟩ := pl_yes hIV.1 hkd hpc
    rw [hs1] at hG
    have hf1 := hG.find hIV1 hm.1
    have hg17 := hG.2.1
    have hg18 := hG.2.2.1
    have hd := dark_new (σ' := σ1) (k := σ 17 0) (c := cd) hkd.2.2.2 hG.2.2.2.2.2.2.2.2.1 (hIV1.off (by decide)) (hIV1.off (by decide))
    have hAR2 := hAR0.to (σ' := σ1) (fun f z z1 z2 => hG.1 f z z1 (by omega))
    refine v_istore F (pc := 425) (lo' := [some (.ref b), some (.ref x), some (.ref a2), some (.ref a3), some (.ref a4), some (.ref a5), some (.int (iI (σ 18 0))), some (.int (iI (1))), some (.int (iI (tn))), some (.int (iI (t))), none, some (.int (iI (y))), none, some (.int (iI (sz))), some (.int (iI (pw))), some (.int (iI (wt))), some (.int (iI (cd))), none, none, some (.int (iI (σ 17 0))), some (.int (iI (σ 18 0))), none, none, none]) dL_law_425 (Nat.le_of_ble_eq_true rfl) rfl ?_
    refine v_iload F (pc := 427) dL_law_427 rfl ?_
    refine v_bipush F (pc := 429) dL_law_429 (by decide) ?_
    refine v_icmp_ne F (pc := 431) (a := σ 18 0) (b := -3) 451 dL_law_431 (by decide) (by omega) (by omega) (fun c_1 => ?_) (fun c_1 => ?_)
    · refine v_iload F (pc := 451) dL_law_451 rfl ?_
      refine v_iload F (pc := 453) dL_law_453 rfl ?_
      refine v_icmp_ne F (pc := 455) (a := σ 18 0) (b := σ 18 0) 534 dL_law_455 (by decide) (by omega) (by omega) (fun c_2 => ?_) (fun c_2 => ?_)
      · exfalso; omega
      · refine v_aload_n F (pc := 458) dL_law_458 rfl ?_
        refine v_callV F (pc := 459) (As := []) (rest := []) ci_L_41 ct_X4_machines cs_X4_machines (N_machines l g X1) dL_law_459 (k0 := 7) rfl rfl o1 rfl rfl (Nat.le_of_ble_eq_true rfl) (Nat.le_of_ble_eq_true rfl) (Nat.le_of_ble_eq_true rfl) (show cells + 6 + 0 ≤ 674477 by omega) (show slots + 181 + 0 ≤ 7078194 by omega) (fun v_ h2 hp_ => ?_) (fun _ _ z => z.elim)
        obtain ⟨rfl, X2⟩ := hp_
        obtain ⟨fs2, o2⟩ := X2.obj
        refine v_iload F (pc := 462) dL_law_462 rfl ?_
        refine v_iconst F (pc := 464) dL_law_464 ?_
        refine v_iadd F (pc := 465) (a := σ 17 0) (b := 1) dL_law_465 ?_
        refine v_icmp_ne F (pc := 466) (a := σ1 17 0) (b := (σ 17 0) + 1) 534 dL_law_466 (by decide) (by omega) (by omega) (fun c_3 => ?_) (fun c_3 => ?_)
        · exfalso; omega
        · refine v_aload_n F (pc := 469) dL_law_469 rfl ?_
          refine v_iload F (pc := 470) dL_law_470 rfl ?_
          refine v_callV F (pc := 472) (As := [.int (iI (σ 18 0))]) (rest := []) ci_L_64 ct_X4_isDark cs_X4_isDark (N_isDark l g X2 (σ 18 0) hf1 hm.1 (by omega)) dL_law_472 (k0 := 7) rfl rfl o2 rfl rfl (Nat.le_of_ble_eq_true rfl) (Nat.le_of_ble_eq_true rfl) (Nat.le_of_ble_eq_true rfl) (show cells + 6 + 1 ≤ 674477 by omega) (show slots + 181 + 6 ≤ 7078194 by omega) (fun v_ h3 hp_ => ?_) (fun _ _ z => z.elim)
          obtain ⟨rfl, X3⟩ := hp_
          obtain ⟨fs3, o3⟩ := X3.obj
          refine v_if_neB F (pc := 475) (b := (m_dark σ1 (σ 17 0))) 482 dL_law_475 (by decide) (fun c_4 => ?_) (fun c_4 => ?_)
          · have kD := c_4
            refine v_iconst F (pc := 482) dL_law_482 ?_
            refine v_iload F (pc := 483) dL_law_483 rfl ?_
            refine v_iconst F (pc := 485) dL_law_485 ?_
            refine v_icmp_ne F (pc := 486) (a := cd) (b := 2) 513 dL_law_486 (by decide) (by omega) (by omega) (fun c_5 => ?_) (fun c_5 => ?_)
            · have k2 : ¬ cd = 2 := by omega
              refine v_aload_n F (pc := 513) dL_law_513 rfl ?_
              refine v_iload F (pc := 514) dL_law_514 rfl ?_
              refine v_callV F (pc := 516) (As := [.int (iI (cd))]) (rest := [.int (iI (0))]) ci_L_57 ct_X4_hasFailed cs_X4_hasFailed (N_hasFailed l g X3 cd (by omega)) dL_law_516 (k0 := 7) rfl rfl o3 rfl rfl (Nat.le_of_ble_eq_true rfl) (Nat.le_of_ble_eq_true rfl) (Nat.le_of_ble_eq_true rfl) (show cells + 6 + 1 + 1 ≤ 674477 by omega) (show slots + 181 + 6 + 6 ≤ 7078194 by omega) (fun v_ h4 hp_ => ?_) (fun _ _ z => z.elim)
              obtain ⟨rfl, X4⟩ := hp_
              obtain ⟨fs4, o4⟩ := X4.obj
              refine v_if_neB F (pc := 519) (b := (decide (σ1 9 cd = 1))) 526 dL_law_519 (by decide) (fun c_6 => ?_) (fun c_6 => ?_)
              · have kC := c_6
                refine v_iconst F (pc := 526) dL_law_526 ?_
                refine v_icmp_ne F (pc := 527) (a := 0) (b := 0) 534 dL_law_527 (by decide) (by omega) (by omega) (fun c_7 => ?_) (fun c_7 => ?_)
                · exact absurd c_7 (by decide)
                · refine v_iconst F (pc := 530) dL_law_530 ?_
                  refine v_goto F (pc := 531) 535 dL_law_531 (by decide) ?_
                  refine v_istore F (pc := 535) (lo' := [some (.ref b), some (.ref x), some (.ref a2), some (.ref a3), some (.ref a4), some (.ref a5), some (.int (iI (σ 18 0))), some (.int (iI (1))), some (.int (iI (tn))), some (.int (iI (t))), none, some (.int (iI (y))), none, some (.int (iI (sz))), some (.int (iI (pw))), some (.int (iI (wt))), some (.int (iI (cd))), none, none, some (.int (iI (σ 17 0))), some (.int (iI (σ 18 0))), none, none, none]) dL_law_535 (Nat.le_of_ble_eq_true rfl) rfl ?_
                  refine v_iload F (pc := 537) dL_law_537 rfl ?_
                  refine v_iload F (pc := 539) dL_law_539 rfl ?_
                  refine v_if_lt F (pc := 541) (a := σ 18 0) 548 dL_law_541 (by decide) (by omega) (fun c_8 => ?_) (fun c_8 => ?_)
                  · exfalso; omega
                  · refine v_iconst F (pc := 544) dL_law_544 ?_
                    refine v_goto F (pc := 545) 549 dL_law_545 (by decide) ?_
                    refine v_iadd F (pc := 549) (a := σ 18 0) (b := 1) dL_law_549 ?_
                    refine v_istore F (pc := 550) (lo' := [some (.ref b), some (.ref x), some (.ref a2), some (.ref a3), some (.ref a4), some (.ref a5), some (.int (iI ((σ 18 0) + 1))), some (.int (iI (1))), some (.int (iI (tn))), some (.int (iI (t))), none, some (.int (iI (y))), none, some (.int (iI (sz))), some (.int (iI (pw))), some (.int (iI (wt))), some (.int (iI (cd))), none, none, some (.int (iI (σ 17 0))), some (.int (iI (σ 18 0))), none, none, none]) dL_law_550 (Nat.le_of_ble_eq_true rfl) rfl ?_
                    refine v_goto F (pc := 552) 1144 dL_law_552 (by decide) ?_
                    rw [show (σ 18 0) + 1 = σ1 18 0 by omega]
                    exact v_wid (show cells + 6 + 1 + 1 ≤ cells + 130 by omega) (show slots + 181 + 6 + 6 ≤ slots + 18100 by omega) (V.fg (kk h4 σ1 k0 X4 hAR2 (by omega) (by omega)) ⟨rfl, ⟨rfl, ⟨rfl, ⟨rfl, ⟨rfl, ⟨rfl, ⟨rfl, ⟨rfl, ⟨rfl, ⟨rfl, ⟨rfl, ⟨rfl, ⟨rfl, ⟨rfl, trivial⟩⟩⟩⟩⟩⟩⟩⟩⟩⟩⟩⟩⟩⟩)
              · have kC := c_6
                refine v_iconst F (pc := 522) dL_law_522 ?_
                refine v_goto F (pc := 523) 527 dL_law_523 (by decide) ?_
                refine v_icmp_ne F (pc := 527) (a := 0) (b := 1) 534 dL_law_527 (by decide) (by omega) (by omega) (fun c_9 => ?_) (fun c_9 => ?_)
                · exfalso
                  first | (rw [hd, if_pos k2, kA, kB] at kD; exact absurd kD (by decide)) | (rw [hd, if_pos k2, kA] at kD; exact absurd kD (by simp)) | (rw [hd, if_neg k2, kC] at kD; exact absurd kD (by decide))
                · exact absurd c_9 (by decide)
            · have k2 : cd = 2 := by omega
              refine v_aload_n F (pc := 489) dL_law_489 rfl ?_
              refine v_iconst F (pc := 490) dL_law_490 ?_
              refine v_callV F (pc := 491) (As := [.int (iI (0))]) (rest := [.int (iI (0))]) ci_L_57 ct_X4_hasFailed cs_X4_hasFailed (N_hasFailed l g X3 0 (by omega)) dL_law_491 (k0 := 7) rfl rfl o3 rfl rfl (Nat.le_of_ble_eq_true rfl) (Nat.le_of_ble_eq_true rfl) (Nat.le_of_ble_eq_true rfl) (show cells + 6 + 1 + 1 ≤ 674477 by omega) (show slots + 181 + 6 + 6 ≤ 7078194 by omega) (fun v_ h5 hp_ => ?_) (fun _ _ z => z.elim)
              obtain ⟨rfl, X5⟩ := hp_
              obtain ⟨fs5, o5⟩ := X5.obj
              refine v_if_eqB F (pc := 494) (b := (decide (σ1 9 0 = 1))) 505 dL_law_494 (by decide) (fun c_10 => ?_) (fun c_10 => ?_)
              · have kA := c_10
                refine v_iconst F (pc := 505) dL_law_505 ?_
                refine v_goto F (pc := 506) 527 dL_law_506 (by decide) ?_
                refine v_icmp_ne F (pc := 527) (a := 0) (b := 1) 534 dL_law_527 (by decide) (by omega) (by omega) (fun c_11 => ?_) (fun c_11 => ?_)
                · exfalso
                  first | (rw [hd, if_pos k2, kA, kB] at kD; exact absurd kD (by decide)) | (rw [hd, if_pos k2, kA] at kD; exact absurd kD (by simp)) | (rw [hd, if_neg k2, kC] at kD; exact absurd kD (by decide))
                · exact absurd c_11 (by decide)
              · have kA := c_10
                refine v_aload_n F (pc := 497) dL_law_497 rfl ?_
                refine v_iconst F (pc := 498) dL_law_498 ?_
                refine v_callV F (pc := 499) (As := [.int (iI (1))]) (rest := [.int (iI (0))]) ci_L_57 ct_X4_hasFailed cs_X4_hasFailed (N_hasFailed l g X5 1 (by omega)) dL_law_499 (k0 := 7) rfl rfl o5 rfl rfl (Nat.le_of_ble_eq_true rfl) (Nat.le_of_ble_eq_true rfl) (Nat.le_of_ble_eq_true rfl) (show cells + 6 + 1 + 1 + 1 ≤ 674477 by omega) (show slots + 181 + 6 + 6 + 6 ≤ 7078194 by omega) (fun v_ h6 hp_ => ?_) (fun _ _ z => z.elim)
                obtain ⟨rfl, X6⟩ := hp_
                obtain ⟨fs6, o6⟩ := X6.obj
                refine v_if_neB F (pc := 502) (b := (decide (σ1 9 1 = 1))) 509 dL_law_502 (by decide) (fun c_12 => ?_) (fun c_12 => ?_)
                · have kB := c_12
                  refine v_iconst F (pc := 509) dL_law_509 ?_
                  refine v_goto F (pc := 510) 527 dL_law_510 (by decide) ?_
                  refine v_icmp_ne F (pc := 527) (a := 0) (b := 0) 534 dL_law_527 (by decide) (by omega) (by omega) (fun c_13 => ?_) (fun c_13 => ?_)
                  · exact absurd c_13 (by decide)
                  · refine v_iconst F (pc := 530) dL_law_530 ?_
                    refine v_goto F (pc := 531) 535 dL_law_531 (by decide) ?_
                    refine v_istore F (pc := 535) (lo' := [some (.ref b), some (.ref x), some (.ref a2), some (.ref a3), some (.ref a4), some (.ref a5), some (.int (iI (σ 18 0))), some (.int (iI (1))), some (.int (iI (tn))), some (.int (iI (t))), none, some (.int (iI (y))), none, some (.int (iI (sz))), some (.int (iI (pw))), some (.int (iI (wt))), some (.int (iI (cd))), none, none, some (.int (iI (σ 17 0))), some (.int (iI (σ 18 0))), none, none, none]) dL_law_535 (Nat.le_of_ble_eq_true rfl) rfl ?_
                    refine v_iload F (pc := 537) dL_law_537 rfl ?_
                    refine v_iload F (pc := 539) dL_law_539 rfl ?_
                    refine v_if_lt F (pc := 541) (a := σ 18 0) 548 dL_law_541 (by decide) (by omega) (fun c_14 => ?_) (fun c_14 => ?_)
                    · exfalso; omega
                    · refine v_iconst F (pc := 544) dL_law_544 ?_
                      refine v_goto F (pc := 545) 549 dL_law_545 (by decide) ?_
                      refine v_iadd F (pc := 549) (a := σ 18 0) (b := 1) dL_law_549 ?_
                      refine v_istore F (pc := 550) (lo' := [some (.ref b), some (.ref x), some (.ref a2), some (.ref a3), some (.ref a4), some (.ref a5), some (.int (iI ((σ 18 0) + 1))), some (.int (iI (1))), some (.int (iI (tn))), some (.int (iI (t))), none, some (.int (iI (y))), none, some (.int (iI (sz))), some (.int (iI (pw))), some (.int (iI (wt))), some (.int (iI (cd))), none, none, some (.int (iI (σ 17 0))), some (.int (iI (σ 18 0))), none, none, none]) dL_law_550 (Nat.le_of_ble_eq_true rfl) rfl ?_
                      refine v_goto F (pc := 552) 1144 dL_law_552 (by decide) ?_
                      rw [show (σ 18 0) + 1 = σ1 18 0 by omega]
                      exact v_wid (show cells + 6 + 1 + 1 + 1 ≤ cells + 130 by omega) (show slots + 181 + 6 + 6 + 6 ≤ slots + 18100 by omega) (V.fg (kk h6 σ1 k0 X6 hAR2 (by omega) (by omega)) ⟨rfl, ⟨rfl, ⟨rfl, ⟨rfl, ⟨rfl, ⟨rfl, ⟨rfl, ⟨rfl, ⟨rfl, ⟨rfl, ⟨rfl, ⟨rfl, ⟨rfl, ⟨rfl, trivial⟩⟩⟩⟩⟩⟩⟩⟩⟩⟩⟩⟩⟩⟩)
                · have kB := c_12
                  refine v_iconst F (pc := 505) dL_law_505 ?_
                  refine v_goto F (pc := 506) 527 dL_law_506 (by decide) ?_
                  refine v_icmp_ne F (pc := 527) (a := 0) (b := 1) 534 dL_law_527 (by decide) (by omega) (by omega) (fun c_15 => ?_) (fun c_15 => ?_)
                  · exfalso
                    first | (rw [hd, if_pos k2, kA, kB] at kD; exact absurd kD (by decide)) | (rw [hd, if_pos k2, kA] at kD; exact absurd kD (by simp)) | (rw [hd, if_neg k2, kC] at kD; exact absurd kD (by decide))
                  · exact absurd c_15 (by decide)
          · have kD := c_4
            refine v_iconst F (pc := 478) dL_law_478 ?_
            refine v_goto F (pc := 479) 483 dL_law_479 (by decide) ?_
            refine v_iload F (pc := 483) dL_law_483 rfl ?_
            refine v_iconst F (pc := 485) dL_law_485 ?_
            refine v_icmp_ne F (pc := 486) (a := cd) (b := 2) 513 dL_law_486 (by decide) (by omega) (by omega) (fun c_16 => ?_) (fun c_16 => ?_)
            · have k2 : ¬ cd = 2 := by omega
              refine v_aload_n F (pc := 513) dL_law_513 rfl ?_
              refine v_iload F (pc := 514) dL_law_514 rfl ?_
              refine v_callV F (pc := 516) (As := [.int (iI (cd))]) (rest := [.int (iI (1))]) ci_L_57 ct_X4_hasFailed cs_X4_hasFailed (N_hasFailed l g X3 cd (by omega)) dL_law_516 (k0 := 7) rfl rfl o3 rfl rfl (Nat.le_of_ble_eq_true rfl) (Nat.le_of_ble_eq_true rfl) (Nat.le_of_ble_eq_true rfl) (show cells + 6 + 1 + 1 ≤ 674477 by omega) (show slots + 181 + 6 + 6 ≤ 7078194 by omega) (fun v_ h7 hp_ => ?_) (fun _ _ z => z.elim)
              obtain ⟨rfl, X7⟩ := hp_
              obtain ⟨fs7, o7⟩ := X7.obj
              refine v_if_neB F (pc := 519) (b := (decide (σ1 9 cd = 1))) 526 dL_law_519 (by decide) (fun c_17 => ?_) (fun c_17 => ?_)
              · have kC := c_17
                refine v_iconst F (pc := 526) dL_law_526 ?_
                refine v_icmp_ne F (pc := 527) (a := 1) (b := 0) 534 dL_law_527 (by decide) (by omega) (by omega) (fun c_18 => ?_) (fun c_18 => ?_)
                · exfalso
                  first | (rw [hd, if_pos k2, kA, kB] at kD; exact absurd kD (by decide)) | (rw [hd, if_pos k2, kA] at kD; exact absurd kD (by simp)) | (rw [hd, if_neg k2, kC] at kD; exact absurd kD (by decide))
                · exact absurd c_18 (by decide)
              · have kC := c_17
                refine v_iconst F (pc := 522) dL_law_522 ?_
                refine v_goto F (pc := 523) 527 dL_law_523 (by decide) ?_
                refine v_icmp_ne F (pc := 527) (a := 1) (b := 1) 534 dL_law_527 (by decide) (by omega) (by omega) (fun c_19 => ?_) (fun c_19 => ?_)
                · exact absurd c_19 (by decide)
                · refine v_iconst F (pc := 530) dL_law_530 ?_
                  refine v_goto F (pc := 531) 535 dL_law_531 (by decide) ?_
                  refine v_istore F (pc := 535) (lo' := [some (.ref b), some (.ref x), some (.ref a2), some (.ref a3), some (.ref a4), some (.ref a5), some (.int (iI (σ 18 0))), some (.int (iI (1))), some (.int (iI (tn))), some (.int (iI (t))), none, some (.int (iI (y))), none, some (.int (iI (sz))), some (.int (iI (pw))), some (.int (iI (wt))), some (.int (iI (cd))), none, none, some (.int (iI (σ 17 0))), some (.int (iI (σ 18 0))), none, none, none]) dL_law_535 (Nat.le_of_ble_eq_true rfl) rfl ?_
                  refine v_iload F (pc := 537) dL_law_537 rfl ?_
                  refine v_iload F (pc := 539) dL_law_539 rfl ?_
                  refine v_if_lt F (pc := 541) (a := σ 18 0) 548 dL_law_541 (by decide) (by omega) (fun c_20 => ?_) (fun c_20 => ?_)
                  · exfalso; omega
                  · refine v_iconst F (pc := 544) dL_law_544 ?_
                    refine v_goto F (pc := 545) 549 dL_law_545 (by decide) ?_
                    refine v_iadd F (pc := 549) (a := σ 18 0) (b := 1) dL_law_549 ?_
                    refine v_istore F (pc := 550) (lo' := [some (.ref b), some (.ref x), some (.ref a2), some (.ref a3), some (.ref a4), some (.ref a5), some (.int (iI ((σ 18 0) + 1))), some (.int (iI (1))), some (.int (iI (tn))), some (.int (iI (t))), none, some (.int (iI (y))), none, some (.int (iI (sz))), some (.int (iI (pw))), some (.int (iI (wt))), some (.int (iI (cd))), none, none, some (.int (iI (σ 17 0))), some (.int (iI (σ 18 0))), none, none, none]) dL_law_550 (Nat.le_of_ble_eq_true rfl) rfl ?_
                    refine v_goto F (pc := 552) 1144 dL_law_552 (by decide) ?_
                    rw [show (σ 18 0) + 1 = σ1 18 0 by omega]
                    exact v_wid (show cells + 6 + 1 + 1 ≤ cells + 130 by omega) (show slots + 181 + 6 + 6 ≤ slots + 18100 by omega) (V.fg (kk h7 σ1 k0 X7 hAR2 (by omega) (by omega)) ⟨rfl, ⟨rfl, ⟨rfl, ⟨rfl, ⟨rfl, ⟨rfl, ⟨rfl, ⟨rfl, ⟨rfl, ⟨rfl, ⟨rfl, ⟨rfl, ⟨rfl, ⟨rfl, trivial⟩⟩⟩⟩⟩⟩⟩⟩⟩⟩⟩⟩⟩⟩)
            · have k2 : cd = 2 := by omega
              refine v_aload_n F (pc := 489) dL_law_489 rfl ?_
              refine v_iconst F (pc := 490) dL_law_490 ?_
              refine v_callV F (pc := 491) (As := [.int (iI (0))]) (rest := [.int (iI (1))]) ci_L_57 ct_X4_hasFailed cs_X4_hasFailed (N_hasFailed l g X3 0 (by omega)) dL_law_491 (k0 := 7) rfl rfl o3 rfl rfl (Nat.le_of_ble_eq_true rfl) (Nat.le_of_ble_eq_true rfl) (Nat.le_of_ble_eq_true rfl) (show cells + 6 + 1 + 1 ≤ 674477 by omega) (show slots + 181 + 6 + 6 ≤ 7078194 by omega) (fun v_ h8 hp_ => ?_) (fun _ _ z => z.elim)
              obtain ⟨rfl, X8⟩ := hp_
              obtain ⟨fs8, o8⟩ := X8.obj
              refine v_if_eqB F (pc := 494) (b := (decide (σ1 9 0 = 1))) 505 dL_law_494 (by decide) (fun c_21 => ?_) (fun c_21 => ?_)
              · have kA := c_21
                refine v_iconst F (pc := 505) dL_law_505 ?_
                refine v_goto F (pc := 506) 527 dL_law_506 (by decide) ?_
                refine v_icmp_ne F (pc := 527) (a := 1) (b := 1) 534 dL_law_527 (by decide) (by omega) (by omega) (fun c_22 => ?_) (fun c_22 => ?_)
                · exact absurd c_22 (by decide)
                · refine v_iconst F (pc := 530) dL_law_530 ?_
                  refine v_goto F (pc := 531) 535 dL_law_531 (by decide) ?_
                  refine v_istore F (pc := 535) (lo' := [some (.ref b), some (.ref x), some (.ref a2), some (.ref a3), some (.ref a4), some (.ref a5), some (.int (iI (σ 18 0))), some (.int (iI (1))), some (.int (iI (tn))), some (.int (iI (t))), none, some (.int (iI (y))), none, some (.int (iI (sz))), some (.int (iI (pw))), some (.int (iI (wt))), some (.int (iI (cd))), none, none, some (.int (iI (σ 17 0))), some (.int (iI (σ 18 0))), none, none, none]) dL_law_535 (Nat.le_of_ble_eq_true rfl) rfl ?_
                  refine v_iload F (pc := 537) dL_law_537 rfl ?_
                  refine v_iload F (pc := 539) dL_law_539 rfl ?_
                  refine v_if_lt F (pc := 541) (a := σ 18 0) 548 dL_law_541 (by decide) (by omega) (fun c_23 => ?_) (fun c_23 => ?_)
                  · exfalso; omega
                  · refine v_iconst F (pc := 544) dL_law_544 ?_
                    refine v_goto F (pc := 545) 549 dL_law_545 (by decide) ?_
                    refine v_iadd F (pc := 549) (a := σ 18 0) (b := 1) dL_law_549 ?_
                    refine v_istore F (pc := 550) (lo' := [some (.ref b), some (.ref x), some (.ref a2), some (.ref a3), some (.ref a4), some (.ref a5), some (.int (iI ((σ 18 0) + 1))), some (.int (iI (1))), some (.int (iI (tn))), some (.int (iI (t))), none, some (.int (iI (y))), none, some (.int (iI (sz))), some (.int (iI (pw))), some (.int (iI (wt))), some (.int (iI (cd))), none, none, some (.int (iI (σ 17 0))), some (.int (iI (σ 18 0))), none, none, none]) dL_law_550 (Nat.le_of_ble_eq_true rfl) rfl ?_
                    refine v_goto F (pc := 552) 1144 dL_law_552 (by decide) ?_
                    rw [show (σ 18 0) + 1 = σ1 18 0 by omega]
                    exact v_wid (show cells + 6 + 1 + 1 ≤ cells + 130 by omega) (show slots + 181 + 6 + 6 ≤ slots + 18100 by omega) (V.fg (kk h8 σ1 k0 X8 hAR2 (by omega) (by omega)) ⟨rfl, ⟨rfl, ⟨rfl, ⟨rfl, ⟨rfl, ⟨rfl, ⟨rfl, ⟨rfl, ⟨rfl, ⟨rfl, ⟨rfl, ⟨rfl, ⟨rfl, ⟨rfl, trivial⟩⟩⟩⟩⟩⟩⟩⟩⟩⟩⟩⟩⟩⟩)
              · have kA := c_21
                refine v_aload_n F (pc := 497) dL_law_497 rfl ?_
                refine v_iconst F (pc := 498) dL_law_498 ?_
                refine v_callV F (pc := 499) (As := [.int (iI (1))]) (rest := [.int (iI (1))]) ci_L_57 ct_X4_hasFailed cs_X4_hasFailed (N_hasFailed l g X8 1 (by omega)) dL_law_499 (k0 := 7) rfl rfl o8 rfl rfl (Nat.le_of_ble_eq_true rfl) (Nat.le_of_ble_eq_true rfl) (Nat.le_of_ble_eq_true rfl) (show cells + 6 + 1 + 1 + 1 ≤ 674477 by omega) (show slots + 181 + 6 + 6 + 6 ≤ 7078194 by omega) (fun v_ h9 hp_ => ?_) (fun _ _ z => z.elim)
                obtain ⟨rfl, X9⟩ := hp_
                obtain ⟨fs9, o9⟩ := X9.obj
                refine v_if_neB F (pc := 502) (b := (decide (σ1 9 1 = 1))) 509 dL_law_502 (by decide) (fun c_24 => ?_) (fun c_24 => ?_)
                · have kB := c_24
                  refine v_iconst F (pc := 509) dL_law_509 ?_
                  refine v_goto F (pc := 510) 527 dL_law_510 (by decide) ?_
                  refine v_icmp_ne F (pc := 527) (a := 1) (b := 0) 534 dL_law_527 (by decide) (by omega) (by omega) (fun c_25 => ?_) (fun c_25 => ?_)
                  · exfalso
                    first | (rw [hd, if_pos k2, kA, kB] at kD; exact absurd kD (by decide)) | (rw [hd, if_pos k2, kA] at kD; exact absurd kD (by simp)) | (rw [hd, if_neg k2, kC] at kD; exact absurd kD (by decide))
                  · exact absurd c_25 (by decide)
                · have kB := c_24
                  refine v_iconst F (pc := 505) dL_law_505 ?_
                  refine v_goto F (pc := 506) 527 dL_law_506 (by decide) ?_
                  refine v_icmp_ne F (pc := 527) (a := 1) (b := 1) 534 dL_law_527 (by decide) (by omega) (by omega) (fun c_26 => ?_) (fun c_26 => ?_)
                  · exact absurd c_26 (by decide)
                  · refine v_iconst F (pc := 530) dL_law_530 ?_
                    refine v_goto F (pc := 531) 535 dL_law_531 (by decide) ?_
                    refine v_istore F (pc := 535) (lo' := [some (.ref b), some (.ref x), some (.ref a2), some (.ref a3), some (.ref a4), some (.ref a5), some (.int (iI (σ 18 0))), some (.int (iI (1))), some (.int (iI (tn))), some (.int (iI (t))), none, some (.int (iI (y))), none, some (.int (iI (sz))), some (.int (iI (pw))), some (.int (iI (wt))), some (.int (iI (cd))), none, none, some (.int (iI (σ 17 0))), some (.int (iI (σ 18 0))), none, none, none]) dL_law_535 (Nat.le_of_ble_eq_true rfl) rfl ?_
                    refine v_iload F (pc := 537) dL_law_537 rfl ?_
                    refine v_iload F (pc := 539) dL_law_539 rfl ?_
                    refine v_if_lt F (pc := 541) (a := σ 18 0) 548 dL_law_541 (by decide) (by omega) (fun c_27 => ?_) (fun c_27 => ?_)
                    · exfalso; omega
                    · refine v_iconst F (pc := 544) dL_law_544 ?_
                      refine v_goto F (pc := 545) 549 dL_law_545 (by decide) ?_
                      refine v_iadd F (pc := 549) (a := σ 18 0) (b := 1) dL_law_549 ?_
                      refine v_istore F (pc := 550) (lo' := [some (.ref b), some (.ref x), some (.ref a2), some (.ref a3), some (.ref a4), some (.ref a5), some (.int (iI ((σ 18 0) + 1))), some (.int (iI (1))), some (.int (iI (tn))), some (.int (iI (t))), none, some (.int (iI (y))), none, some (.int (iI (sz))), some (.int (iI (pw))), some (.int (iI (wt))), some (.int (iI (cd))), none, none, some (.int (iI (σ 17 0))), some (.int (iI (σ 18 0))), none, none, none]) dL_law_550 (Nat.le_of_ble_eq_true rfl) rfl ?_
                      refine v_goto F (pc := 552) 1144 dL_law_552 (by decide) ?_
                      rw [show (σ 18 0) + 1 = σ1 18 0 by omega]
                      exact v_wid (show cells + 6 + 1 + 1 + 1 ≤ cells + 130 by omega) (show slots + 181 + 6 + 6 + 6 ≤ slots + 18100 by omega) (V.fg (kk h9 σ1 k0 X9 hAR2 (by omega) (by omega)) ⟨rfl, ⟨rfl, ⟨rfl, ⟨rfl, ⟨rfl, ⟨rfl, ⟨rfl, ⟨rfl, ⟨rfl, ⟨rfl, ⟨rfl, ⟨rfl, ⟨rfl, ⟨rfl, trivial⟩⟩⟩⟩⟩⟩⟩⟩⟩⟩⟩⟩⟩⟩)
    · exfalso; omega
  · rw [show (if pl_c σ sz pw wt cd = 0 then σ 18 0 else (-3 : Int)) = -3 from if_neg hpc]
    obtain ⟨hA1, hA2⟩ := pl_not hIV.1 hkd hpc
    rw [hs1] at hA2
    have hg17 := hA2.2.1
    have hg18 := hA2.2.2.1
    have hAR2 := hAR0.to (σ' := σ1) (fun f z z1 z2 => hA2.1 f z z1 (by omega))
    refine v_istore F (pc := 425) (lo' := [some (.ref b), some (.ref x), some (.ref a2), some (.ref a3), some (.ref a4), some (.ref a5), some (.int (iI (σ 18 0))), some (.int (iI (1))), some (.int (iI (tn))), some (.int (iI (t))), none, some (.int (iI (y))), none, some (.int (iI (sz))), some (.int (iI (pw))), some (.int (iI (wt))), some (.int (iI (cd))), none, none, some (.int (iI (σ 17 0))), some (.int (iI (-3))), none, none, none]) dL_law_425 (Nat.le_of_ble_eq_true rfl) rfl ?_
    refine v_iload F (pc := 427) dL_law_427 rfl ?_
    refine v_bipush F (pc := 429) dL_law_429 (by decide) ?_
    refine v_icmp_ne F (pc := 431) (a := -3) (b := -3) 451 dL_law_431 (by decide) (by omega) (by omega) (fun c_28 => ?_) (fun c_28 => ?_)
    · exact absurd c_28 (by decide)
    · refine v_aload_n F (pc := 434) dL_law_434 rfl ?_
      refine v_callV F (pc := 435) (As := []) (rest := []) ci_L_41 ct_X4_machines cs_X4_machines (N_machines l g X1) dL_law_435 (k0 := 7) rfl rfl o1 rfl rfl (Nat.le_of_ble_eq_true rfl) (Nat.le_of_ble_eq_true rfl) (Nat.le_of_ble_eq_true rfl) (show cells + 6 + 0 ≤ 674477 by omega) (show slots + 181 + 0 ≤ 7078194 by omega) (fun v_ h10 hp_ => ?_) (fun _ _ z => z.elim)
      obtain ⟨rfl, X10⟩ := hp_
      obtain ⟨fs10, o10⟩ := X10.obj
      refine v_iload F (pc := 438) dL_law_438 rfl ?_
      refine v_icmp_ne F (pc := 440) (a := σ1 17 0) (b := σ 17 0) 447 dL_law_440 (by decide) (by omega) (by omega) (fun c_29 => ?_) (fun c_29 => ?_)
      · exfalso; omega
      · refine v_iconst F (pc := 443) dL_law_443 ?_
        refine v_goto F (pc := 444) 535 dL_law_444 (by decide) ?_
        refine v_istore F (pc := 535) (lo' := [some (.ref b), some (.ref x), some (.ref a2), some (.ref a3), some (.ref a4), some (.ref a5), some (.int (iI (σ 18 0))), some (.int (iI (1))), some (.int (iI (tn))), some (.int (iI (t))), none, some (.int (iI (y))), none, some (.int (iI (sz))), some (.int (iI (pw))), some (.int (iI (wt))), some (.int (iI (cd))), none, none, some (.int (iI (σ 17 0))), some (.int (iI (-3))), none, none, none]) dL_law_535 (Nat.le_of_ble_eq_true rfl) rfl ?_
        refine v_iload F (pc := 537) dL_law_537 rfl ?_
        refine v_iload F (pc := 539) dL_law_539 rfl ?_
        refine v_if_lt F (pc := 541) (a := -3) 548 dL_law_541 (by decide) (by omega) (fun c_30 => ?_) (fun c_30 => ?_)
        · refine v_iconst F (pc := 548) dL_law_548 ?_
          refine v_iadd F (pc := 549) (a := σ 18 0) (b := 0) dL_law_549 ?_
          refine v_istore F (pc := 550) (lo' := [some (.ref b), some (.ref x), some (.ref a2), some (.ref a3), some (.ref a4), some (.ref a5), some (.int (iI ((σ 18 0) + 0))), some (.int (iI (1))), some (.int (iI (tn))), some (.int (iI (t))), none, some (.int (iI (y))), none, some (.int (iI (sz))), some (.int (iI (pw))), some (.int (iI (wt))), some (.int (iI (cd))), none, none, some (.int (iI (σ 17 0))), some (.int (iI (-3))), none, none, none]) dL_law_550 (Nat.le_of_ble_eq_true rfl) rfl ?_
          refine v_goto F (pc := 552) 1144 dL_law_552 (by decide) ?_
          rw [show (σ 18 0) + 0 = σ1 18 0 by omega]
          exact v_wid (show cells + 6 ≤ cells + 130 by omega) (show slots + 181 ≤ slots + 18100 by omega) (V.fg (kk h10 σ1 k0 X10 hAR2 (by omega) (by omega)) ⟨rfl, ⟨rfl, ⟨rfl, ⟨rfl, ⟨rfl, ⟨rfl, ⟨rfl, ⟨rfl, ⟨rfl, ⟨rfl, ⟨rfl, ⟨rfl, ⟨rfl, ⟨rfl, trivial⟩⟩⟩⟩⟩⟩⟩⟩⟩⟩⟩⟩⟩⟩)
        · exact absurd c_30 (by decide)
-- the law, from 567
set_option maxRecDepth 100000 in
set_option maxHeartbeats 8000000 in
theorem D_take {pX : Program} {l : Launch} {eX : Env} {sS : State} {mX : MethodId} {args : Array Value} {below : List Frame} {meth : Method} {cX : Code} {Q : State → Prop} {g : gT} {AX : Nat → Prop} (F : Fx pX l sS mX args meth cX cL_law 24 ret RL g AX) {x a2 a3 a4 a5 b : Nat} {h0 : fH} {σ : sT} {k0 : fH} (X0 : SL g x h0 σ k0) (hAR : AR g k0 a2 a3 a4 a5 σ) {tn t y sz pw wt cd : Int} (hkd : cKD sz pw wt cd) (hgv : σ 18 0 < 1000) (hy : -2147483648 ≤ y ∧ y ≤ 2147483647) {cells slots : Nat} (hc : cells + 130 ≤ 674477) (hs : slots + 18100 ≤ 7078194) {mm K : Int} (hf : m_find σ mm = K) (K0 : 0 ≤ K) (mm_r : -2147483648 ≤ mm ∧ mm ≤ 2147483647) (kk : ∀ (h2 : fH) (σ2 : sT) (k2 : fH), SL g x h2 σ2 k2 → AR g k2 a2 a3 a4 a5 σ2 → 0 ≤ σ2 18 0 → σ2 18 0 ≤ σ 18 0 + 1 → V pX l eX room_1 sS mX args below meth cX Q 24 g AX h2 (cells + 130) (slots + 18100) 1144 [some (.ref b), some (.ref x), some (.ref a2), some (.ref a3), some (.ref a4), some (.ref a5), some (.int (iI (σ2 18 0))), some (.int (iI (1))), some (.int (iI (tn))), some (.int (iI (t))), none, none, none, some (.int (iI (sz))), some (.int (iI (pw))), some (.int (iI (wt))), some (.int (iI (cd))), none, none, none, none, none, none, none] []) : V pX l eX room_1 sS mX args below meth cX Q 24 g AX (h0) (cells) (slots) 567 [some (.ref b), some (.ref x), some (.ref a2), some (.ref a3), some (.ref a4), some (.ref a5), some (.int (iI (σ 18 0))), some (.int (iI (1))), some (.int (iI (tn))), some (.int (iI (t))), none, some (.int (iI (y))), none, some (.int (iI (sz))), some (.int (iI (pw))), some (.int (iI (wt))), some (.int (iI (cd))), some (.int (iI (mm))), none, some (.int (iI (σ 17 0))), none, none, none, none] [] := by
  have hIV := X0.iv
  have hm := mb_nm hIV.1
  have hn := mb_nr hIV.1
  have h18 : (0 : Int) ≤ σ 18 0 := (hIV.1 18 0 (by decide) (by decide)).1
  have hAR0 := hAR
  obtain ⟨⟨d23, d24, d25, d34, d35, d45⟩, SF, LF, WF, MF, q2, q3, q4, q5, hS, hM⟩ := hAR
  obtain ⟨fs0, o0⟩ := X0.obj
  have hKv := find_v hIV.1 (num := mm) (by omega)
  rw [hf] at hKv
  have hK := hIV.mach K0 hKv.2.1
  refine v_aload_n F (pc := 567) dL_law_567 rfl ?_
  refine v_iload F (pc := 568) dL_law_568 rfl ?_
  refine v_callV F (pc := 570) (As := [.int (iI (mm))]) (rest := []) ci_L_26 ct_X4_rackOf cs_X4_rackOf (N_rackOf l g X0 mm hf K0 mm_r) dL_law_570 (k0 := 7) rfl rfl o0 rfl rfl (Nat.le_of_ble_eq_true rfl) (Nat.le_of_ble_eq_true rfl) (Nat.le_of_ble_eq_true rfl) (show cells + 1 ≤ 674477 by omega) (show slots + 6 ≤ 7078194 by omega) (fun v_ h1 hp_ => ?_) (fun _ _ z => z.elim)
  obtain ⟨rfl, X1⟩ := hp_
  obtain ⟨fs1, o1⟩ := X1.obj
  refine v_istore F (pc := 573) (lo' := [some (.ref b), some (.ref x), some (.ref a2), some (.ref a3), some (.ref a4), some (.ref a5), some (.int (iI (σ 18 0))), some (.int (iI (1))), some (.int (iI (tn))), some (.int (iI (t))), none, some (.int (iI (y))), none, some (.int (iI (sz))), some (.int (iI (pw))), some (.int (iI (wt))), some (.int (iI (cd))), some (.int (iI (mm))), none, some (.int (iI (σ 17 0))), some (.int (iI (σ 15 K))), none, none, none]) dL_law_573 (Nat.le_of_ble_eq_true rfl) rfl ?_
  refine v_aload_n F (pc := 575) dL_law_575 rfl ?_
  refine v_iload F (pc := 576) dL_law_576 rfl ?_
  refine v_callV F (pc := 578) (As := [.int (iI (mm))]) (rest := []) ci_L_82 ct_X4_takeOut cs_X4_takeOut (N_takeOut l g X1 mm hf K0 mm_r) dL_law_578 (k0 := 7) rfl rfl o1 rfl rfl (Nat.le_of_ble_eq_true rfl) (Nat.le_of_ble_eq_true rfl) (Nat.le_of_ble_eq_true rfl) (show cells + 1 + 1 ≤ 674477 by omega) (show slots + 6 + 6 ≤ 7078194 by omega) (fun v_ h2 hp_ => ?_) (fun _ _ z => z.elim)
  obtain ⟨rfl, X2⟩ := hp_
  obtain ⟨fs2, o2⟩ := X2.obj
  obtain ⟨f1, f2, f3, f4⟩ := out_facts hIV hf K0
  obtain ⟨σ1, e1⟩ : ∃ z, tO_s σ mm = z := ⟨_, rfl⟩
  rw [e1] at X2 f1 f2 f3 f4
  have hAR2 := hAR0.to (σ' := σ1) (fun f z z1 z2 => f1 f z z1 (by omega))
  refine v_iload F (pc := 581) dL_law_581 rfl ?_
  refine v_icmp_ne F (pc := 583) (a := σ 15 K) (b := σ 15 K) 611 dL_law_583 (by decide) (by omega) (by omega) (fun c_1 => ?_) (fun c_1 => ?_)
  · exfalso; omega
  · refine v_aload_n F (pc := 586) dL_law_586 rfl ?_
    refine v_callV F (pc := 587) (As := []) (rest := []) ci_L_41 ct_X4_machines cs_X4_machines (N_machines l g X2) dL_law_587 (k0 := 7) rfl rfl o2 rfl rfl (Nat.le_of_ble_eq_true rfl) (Nat.le_of_ble_eq_true rfl) (Nat.le_of_ble_eq_true rfl) (show cells + 1 + 1 + 0 ≤ 674477 by omega) (show slots + 6 + 6 + 0 ≤ 7078194 by omega) (fun v_ h3 hp_ => ?_) (fun _ _ z => z.elim)
    obtain ⟨rfl, X3⟩ := hp_
    obtain ⟨fs3, o3⟩ := X3.obj
    refine v_iload F (pc := 590) dL_law_590 rfl ?_
    refine v_iconst F (pc := 592) dL_law_592 ?_
    refine v_isub F (pc := 593) (a := σ 17 0) (b := 1) dL_law_593 ?_
    refine v_icmp_ne F (pc := 594) (a := σ1 17 0) (b := (σ 17 0) - 1) 611 dL_law_594 (by decide) (by omega) (by omega) (fun c_2 => ?_) (fun c_2 => ?_)
    · exfalso; omega
    · refine v_aload_n F (pc := 597) dL_law_597 rfl ?_
      refine v_iload F (pc := 598) dL_law_598 rfl ?_
      refine v_callW F (pc := 600) (n := 2) (As := [.ref x, .int (iI (mm))]) (rest := []) lm_rack lx_L lc_rack ⟨by decide, by decide, by decide +kernel⟩ ls_rack (KH_rack l g X3 mm mm_r) dL_law_600 rfl rfl (Nat.le_of_ble_eq_true rfl) (Nat.le_of_ble_eq_true rfl) (Nat.le_of_ble_eq_true rfl) (show cells + 1 + 1 + 1 ≤ 674477 by omega) (show slots + 6 + 6 + 6 ≤ 7078194 by omega) (fun v_ h4 hp_ => ?_)
      obtain ⟨rfl, X4⟩ := hp_
      obtain ⟨fs4, o4⟩ := X4.obj
      rw [show (if fnd_c σ1 mm = 0 then σ1 15 (m_find σ1 mm) else (-1 : Int)) = -1 from if_neg (by omega)]
      refine v_iconst F (pc := 603) dL_law_603 ?_
      refine v_icmp_ne F (pc := 604) (a := -1) (b := -1) 611 dL_law_604 (by decide) (by omega) (by omega) (fun c_3 => ?_) (fun c_3 => ?_)
      · exact absurd c_3 (by decide)
      · refine v_iconst F (pc := 607) dL_law_607 ?_
        refine v_goto F (pc := 608) 612 dL_law_608 (by decide) ?_
        refine v_istore F (pc := 612) (lo' := [some (.ref b), some (.ref x), some (.ref a2), some (.ref a3), some (.ref a4), some (.ref a5), some (.int (iI (σ 18 0))), some (.int (iI (1))), some (.int (iI (tn))), some (.int (iI (t))), none, some (.int (iI (y))), none, some (.int (iI (sz))), some (.int (iI (pw))), some (.int (iI (wt))), some (.int (iI (cd))), some (.int (iI (mm))), none, some (.int (iI (σ 17 0))), some (.int (iI (σ 15 K))), none, none, none]) dL_law_612 (Nat.le_of_ble_eq_true rfl) rfl ?_
        refine v_goto F (pc := 614) 1144 dL_law_614 (by decide) ?_
        rw [show σ 18 0 = σ1 18 0 by omega]
        exact v_wid (show cells + 1 + 1 + 1 ≤ cells + 130 by omega) (show slots + 6 + 6 + 6 ≤ slots + 18100 by omega) (V.fg (kk h4 σ1 k0 X4 hAR2 (by omega) (by omega)) ⟨rfl, ⟨rfl, ⟨rfl, ⟨rfl, ⟨rfl, ⟨rfl, ⟨rfl, ⟨rfl, ⟨rfl, ⟨rfl, ⟨rfl, ⟨rfl, ⟨rfl, ⟨rfl, trivial⟩⟩⟩⟩⟩⟩⟩⟩⟩⟩⟩⟩⟩⟩)
-- the law, from 629
set_option maxRecDepth 100000 in
set_option maxHeartbeats 8000000 in
theorem D_cord {pX : Program} {l : Launch} {eX : Env} {sS : State} {mX : MethodId} {args : Array Value} {below : List Frame} {meth : Method} {cX : Code} {Q : State → Prop} {g : gT} {AX : Nat → Prop} (F : Fx pX l sS mX args meth cX cL_law 24 ret RL g AX) {x a2 a3 a4 a5 b : Nat} {h0 : fH} {σ : sT} {k0 : fH} (X0 : SL g x h0 σ k0) (hAR : AR g k0 a2 a3 a4 a5 σ) {tn t y sz pw wt cd : Int} (hkd : cKD sz pw wt cd) (hgv : σ 18 0 < 1000) (hy : -2147483648 ≤ y ∧ y ≤ 2147483647) {cells slots : Nat} (hc : cells + 130 ≤ 674477) (hs : slots + 18100 ≤ 7078194) {mm K : Int} (hf : m_find σ mm = K) (K0 : 0 ≤ K) (mm_r : -2147483648 ≤ mm ∧ mm ≤ 2147483647) (kk : ∀ (h2 : fH) (σ2 : sT) (k2 : fH), SL g x h2 σ2 k2 → AR g k2 a2 a3 a4 a5 σ2 → 0 ≤ σ2 18 0 → σ2 18 0 ≤ σ 18 0 + 1 → V pX l eX room_1 sS mX args below meth cX Q 24 g AX h2 (cells + 130) (slots + 18100) 1144 [some (.ref b), some (.ref x), some (.ref a2), some (.ref a3), some (.ref a4), some (.ref a5), some (.int (iI (σ2 18 0))), some (.int (iI (1))), some (.int (iI (tn))), some (.int (iI (t))), none, none, none, some (.int (iI (sz))), some (.int (iI (pw))), some (.int (iI (wt))), some (.int (iI (cd))), none, none, none, none, none, none, none] []) : V pX l eX room_1 sS mX args below meth cX Q 24 g AX (h0) (cells) (slots) 629 [some (.ref b), some (.ref x), some (.ref a2), some (.ref a3), some (.ref a4), some (.ref a5), some (.int (iI (σ 18 0))), some (.int (iI (1))), some (.int (iI (tn))), some (.int (iI (t))), none, some (.int (iI (y))), none, some (.int (iI (sz))), some (.int (iI (pw))), some (.int (iI (wt))), some (.int (iI (cd))), some (.int (iI (mm))), none, some (.int (iI (σ 17 0))), none, none, none, none] [] := by
  have hIV := X0.iv
  have hm := mb_nm hIV.1
  have hn := mb_nr hIV.1
  have h18 : (0 : Int) ≤ σ 18 0 := (hIV.1 18 0 (by decide) (by decide)).1
  have hAR0 := hAR
  obtain ⟨⟨d23, d24, d25, d34, d35, d45⟩, SF, LF, WF, MF, q2, q3, q4, q5, hS, hM⟩ := hAR
  obtain ⟨fs0, o0⟩ := X0.obj
  have hKv := find_v hIV.1 (num := mm) (by omega)
  rw [hf] at hKv
  have hK := hIV.mach K0 hKv.2.1
  have w0 := m_worst_rng hIV.1 (σ 15 K) 0
  have w1 := m_worst_rng hIV.1 (σ 15 K) 1
  refine v_aload_n F (pc := 629) dL_law_629 rfl ?_
  refine v_iload F (pc := 630) dL_law_630 rfl ?_
  refine v_callV F (pc := 632) (As := [.int (iI (mm))]) (rest := []) ci_L_26 ct_X4_rackOf cs_X4_rackOf (N_rackOf l g X0 mm hf K0 mm_r) dL_law_632 (k0 := 7) rfl rfl o0 rfl rfl (Nat.le_of_ble_eq_true rfl) (Nat.le_of_ble_eq_true rfl) (Nat.le_of_ble_eq_true rfl) (show cells + 1 ≤ 674477 by omega) (show slots + 6 ≤ 7078194 by omega) (fun v_ h1 hp_ => ?_) (fun _ _ z => z.elim)
  obtain ⟨rfl, X1⟩ := hp_
  obtain ⟨fs1, o1⟩ := X1.obj
  refine v_istore F (pc := 635) (lo' := [some (.ref b), some (.ref x), some (.ref a2), some (.ref a3), some (.ref a4), some (.ref a5), some (.int (iI (σ 18 0))), some (.int (iI (1))), some (.int (iI (tn))), some (.int (iI (t))), none, some (.int (iI (y))), none, some (.int (iI (sz))), some (.int (iI (pw))), some (.int (iI (wt))), some (.int (iI (cd))), some (.int (iI (mm))), none, some (.int (iI (σ 17 0))), some (.int (iI (σ 15 K))), none, none, none]) dL_law_635 (Nat.le_of_ble_eq_true rfl) rfl ?_
  refine v_aload_n F (pc := 637) dL_law_637 rfl ?_
  refine v_iload F (pc := 638) dL_law_638 rfl ?_
  refine v_iconst F (pc := 640) dL_law_640 ?_
  refine v_callV F (pc := 641) (As := [.int (iI (σ 15 K)), .int (iI (0))]) (rest := []) ci_L_51 ct_X4_worstOf cs_X4_worstOf (N_worstOf l g X1 (σ 15 K) 0 (by omega) (by omega)) dL_law_641 (k0 := 7) rfl rfl o1 rfl rfl (Nat.le_of_ble_eq_true rfl) (Nat.le_of_ble_eq_true rfl) (Nat.le_of_ble_eq_true rfl) (show cells + 1 + 2 ≤ 674477 by omega) (show slots + 6 + 12 ≤ 7078194 by omega) (fun v_ h2 hp_ => ?_) (fun _ _ z => z.elim)
  obtain ⟨rfl, X2⟩ := hp_
  obtain ⟨fs2, o2⟩ := X2.obj
  refine v_aload_n F (pc := 644) dL_law_644 rfl ?_
  refine v_iload F (pc := 645) dL_law_645 rfl ?_
  refine v_iconst F (pc := 647) dL_law_647 ?_
  refine v_callV F (pc := 648) (As := [.int (iI (σ 15 K)), .int (iI (1))]) (rest := [.int (iI (m_worst σ (σ 15 K) 0))]) ci_L_51 ct_X4_worstOf cs_X4_worstOf (N_worstOf l g X2 (σ 15 K) 1 (by omega) (by omega)) dL_law_648 (k0 := 7) rfl rfl o2 rfl rfl (Nat.le_of_ble_eq_true rfl) (Nat.le_of_ble_eq_true rfl) (Nat.le_of_ble_eq_true rfl) (show cells + 1 + 2 + 2 ≤ 674477 by omega) (show slots + 6 + 12 + 12 ≤ 7078194 by omega) (fun v_ h3 hp_ => ?_) (fun _ _ z => z.elim)
  obtain ⟨rfl, X3⟩ := hp_
  obtain ⟨fs3, o3⟩ := X3.obj
  refine v_iadd F (pc := 651) (a := m_worst σ (σ 15 K) 0) (b := m_worst σ (σ 15 K) 1) dL_law_651 ?_
  refine v_istore F (pc := 652) (lo' := [some (.ref b), some (.ref x), some (.ref a2), some (.ref a3), some (.ref a4), some (.ref a5), some (.int (iI (σ 18 0))), some (.int (iI (1))), some (.int (iI (tn))), some (.int (iI (t))), none, some (.int (iI (y))), none, some (.int (iI (sz))), some (.int (iI (pw))), some (.int (iI (wt))), some (.int (iI (cd))), some (.int (iI (mm))), none, some (.int (iI (σ 17 0))), some (.int (iI (σ 15 K))), some (.int (iI ((m_worst σ (σ 15 K) 0) + (m_worst σ (σ 15 K) 1)))), none, none]) dL_law_652 (Nat.le_of_ble_eq_true rfl) rfl ?_
  refine v_aload_n F (pc := 654) dL_law_654 rfl ?_
  refine v_iload F (pc := 655) dL_law_655 rfl ?_
  refine v_iload F (pc := 657) dL_law_657 rfl ?_
  by_cases hov : cd_ov σ mm cd = true
  · 
    refine v_callW F (pc := 659) (n := 3) (As := [.ref x, .int (iI (mm)), .int (iI (cd))]) (rest := []) lm_corded lx_L lc_corded ⟨by decide, by decide, by decide +kernel⟩ ls_corded (KC_no l g X3 mm cd hf K0 mm_r hkd.2.2.2 hov) dL_law_659 rfl rfl (Nat.le_of_ble_eq_true rfl) (Nat.le_of_ble_eq_true rfl) (Nat.le_of_ble_eq_true rfl) (show cells + 1 + 2 + 2 + 3 ≤ 674477 by omega) (show slots + 6 + 12 + 12 + 18 ≤ 7078194 by omega) (fun v_ h4 hp_ => ?_)
    obtain ⟨rfl, X4⟩ := hp_
    obtain ⟨fs4, o4⟩ := X4.obj
    refine v_istore F (pc := 662) (lo' := [some (.ref b), some (.ref x), some (.ref a2), some (.ref a3), some (.ref a4), some (.ref a5), some (.int (iI (σ 18 0))), some (.int (iI (1))), some (.int (iI (tn))), some (.int (iI (t))), none, some (.int (iI (y))), none, some (.int (iI (sz))), some (.int (iI (pw))), some (.int (iI (wt))), some (.int (iI (cd))), some (.int (iI (mm))), none, some (.int (iI (σ 17 0))), some (.int (iI (σ 15 K))), some (.int (iI ((m_worst σ (σ 15 K) 0) + (m_worst σ (σ 15 K) 1)))), some (.int (iI (-3))), none]) dL_law_662 (Nat.le_of_ble_eq_true rfl) rfl ?_
    refine v_iload F (pc := 664) dL_law_664 rfl ?_
    refine v_bipush F (pc := 666) dL_law_666 (by decide) ?_
    refine v_icmp_ne F (pc := 668) (a := -3) (b := -3) 699 dL_law_668 (by decide) (by omega) (by omega) (fun c_1 => ?_) (fun c_1 => ?_)
    · exact absurd c_1 (by decide)
    · refine v_aload_n F (pc := 671) dL_law_671 rfl ?_
      refine v_iload F (pc := 672) dL_law_672 rfl ?_
      refine v_iconst F (pc := 674) dL_law_674 ?_
      refine v_callV F (pc := 675) (As := [.int (iI (σ 15 K)), .int (iI (0))]) (rest := []) ci_L_51 ct_X4_worstOf cs_X4_worstOf (N_worstOf l g X4 (σ 15 K) 0 (by omega) (by omega)) dL_law_675 (k0 := 7) rfl rfl o4 rfl rfl (Nat.le_of_ble_eq_true rfl) (Nat.le_of_ble_eq_true rfl) (Nat.le_of_ble_eq_true rfl) (show cells + 1 + 2 + 2 + 3 + 2 ≤ 674477 by omega) (show slots + 6 + 12 + 12 + 18 + 12 ≤ 7078194 by omega) (fun v_ h5 hp_ => ?_) (fun _ _ z => z.elim)
      obtain ⟨rfl, X5⟩ := hp_
      obtain ⟨fs5, o5⟩ := X5.obj
      refine v_aload_n F (pc := 678) dL_law_678 rfl ?_
      refine v_iload F (pc := 679) dL_law_679 rfl ?_
      refine v_iconst F (pc := 681) dL_law_681 ?_
      refine v_callV F (pc := 682) (As := [.int (iI (σ 15 K)), .int (iI (1))]) (rest := [.int (iI (m_worst σ (σ 15 K) 0))]) ci_L_51 ct_X4_worstOf cs_X4_worstOf (N_worstOf l g X5 (σ 15 K) 1 (by omega) (by omega)) dL_law_682 (k0 := 7) rfl rfl o5 rfl rfl (Nat.le_of_ble_eq_true rfl) (Nat.le_of_ble_eq_true rfl) (Nat.le_of_ble_eq_true rfl) (show cells + 1 + 2 + 2 + 3 + 2 + 2 ≤ 674477 by omega) (show slots + 6 + 12 + 12 + 18 + 12 + 12 ≤ 7078194 by omega) (fun v_ h6 hp_ => ?_) (fun _ _ z => z.elim)
      obtain ⟨rfl, X6⟩ := hp_
      obtain ⟨fs6, o6⟩ := X6.obj
      refine v_iadd F (pc := 685) (a := m_worst σ (σ 15 K) 0) (b := m_worst σ (σ 15 K) 1) dL_law_685 ?_
      refine v_iload F (pc := 686) dL_law_686 rfl ?_
      refine v_icmp_ne F (pc := 688) (a := (m_worst σ (σ 15 K) 0) + (m_worst σ (σ 15 K) 1)) (b := (m_worst σ (σ 15 K) 0) + (m_worst σ (σ 15 K) 1)) 695 dL_law_688 (by decide) (by omega) (by omega) (fun c_2 => ?_) (fun c_2 => ?_)
      · exfalso; omega
      · refine v_iconst F (pc := 691) dL_law_691 ?_
        refine v_goto F (pc := 692) 761 dL_law_692 (by decide) ?_
        refine v_istore F (pc := 761) (lo' := [some (.ref b), some (.ref x), some (.ref a2), some (.ref a3), some (.ref a4), some (.ref a5), some (.int (iI (σ 18 0))), some (.int (iI (1))), some (.int (iI (tn))), some (.int (iI (t))), none, some (.int (iI (y))), none, some (.int (iI (sz))), some (.int (iI (pw))), some (.int (iI (wt))), some (.int (iI (cd))), some (.int (iI (mm))), none, some (.int (iI (σ 17 0))), some (.int (iI (σ 15 K))), some (.int (iI ((m_worst σ (σ 15 K) 0) + (m_worst σ (σ 15 K) 1)))), some (.int (iI (-3))), none]) dL_law_761 (Nat.le_of_ble_eq_true rfl) rfl ?_
        refine v_goto F (pc := 763) 1144 dL_law_763 (by decide) ?_
        exact v_wid (show cells + 1 + 2 + 2 + 3 + 2 + 2 ≤ cells + 130 by omega) (show slots + 6 + 12 + 12 + 18 + 12 + 12 ≤ slots + 18100 by omega) (V.fg (kk h6 σ k0 X6 hAR0 (by omega) (by omega)) ⟨rfl, ⟨rfl, ⟨rfl, ⟨rfl, ⟨rfl, ⟨rfl, ⟨rfl, ⟨rfl, ⟨rfl, ⟨rfl, ⟨rfl, ⟨rfl, ⟨rfl, ⟨rfl, trivial⟩⟩⟩⟩⟩⟩⟩⟩⟩⟩⟩⟩⟩⟩)
  · have hov : cd_ov σ mm cd = false := by simpa using hov
    refine v_callW F (pc := 659) (n := 3) (As := [.ref x, .int (iI (mm)), .int (iI (cd))]) (rest := []) lm_corded lx_L lc_corded ⟨by decide, by decide, by decide +kernel⟩ ls_corded (KC_yes l g X3 mm cd hf K0 mm_r hkd.2.2.2 hov) dL_law_659 rfl rfl (Nat.le_of_ble_eq_true rfl) (Nat.le_of_ble_eq_true rfl) (Nat.le_of_ble_eq_true rfl) (show cells + 1 + 2 + 2 + 3 ≤ 674477 by omega) (show slots + 6 + 12 + 12 + 18 ≤ 7078194 by omega) (fun v_ h7 hp_ => ?_)
    obtain ⟨rfl, X7⟩ := hp_
    obtain ⟨fs7, o7⟩ := X7.obj
    refine v_istore F (pc := 662) (lo' := [some (.ref b), some (.ref x), some (.ref a2), some (.ref a3), some (.ref a4), some (.ref a5), some (.int (iI (σ 18 0))), some (.int (iI (1))), some (.int (iI (tn))), some (.int (iI (t))), none, some (.int (iI (y))), none, some (.int (iI (sz))), some (.int (iI (pw))), some (.int (iI (wt))), some (.int (iI (cd))), some (.int (iI (mm))), none, some (.int (iI (σ 17 0))), some (.int (iI (σ 15 K))), some (.int (iI ((m_worst σ (σ 15 K) 0) + (m_worst σ (σ 15 K) 1)))), some (.int (iI (σ 14 K))), none]) dL_law_662 (Nat.le_of_ble_eq_true rfl) rfl ?_
    refine v_iload F (pc := 664) dL_law_664 rfl ?_
    refine v_bipush F (pc := 666) dL_law_666 (by decide) ?_
    refine v_icmp_ne F (pc := 668) (a := σ 14 K) (b := -3) 699 dL_law_668 (by decide) (by omega) (by omega) (fun c_3 => ?_) (fun c_3 => ?_)
    · refine v_iload F (pc := 699) dL_law_699 rfl ?_
      refine v_if_lt F (pc := 701) (a := σ 14 K) 760 dL_law_701 (by decide) (by omega) (fun c_4 => ?_) (fun c_4 => ?_)
      · exfalso; omega
      · refine v_iload F (pc := 704) dL_law_704 rfl ?_
        refine v_iconst F (pc := 706) dL_law_706 ?_
        refine v_icmp_gt F (pc := 707) (a := σ 14 K) (b := 2) 760 dL_law_707 (by decide) (by omega) (by omega) (fun c_5 => ?_) (fun c_5 => ?_)
        · exfalso; omega
        · refine v_aload_n F (pc := 710) dL_law_710 rfl ?_
          refine v_iload F (pc := 711) dL_law_711 rfl ?_
          refine v_iload F (pc := 713) dL_law_713 rfl ?_
          refine v_callW F (pc := 715) (n := 3) (As := [.ref x, .int (iI (mm)), .int (iI (σ 14 K))]) (rest := []) lm_corded lx_L lc_corded ⟨by decide, by decide, by decide +kernel⟩ ls_corded (KC_yes l g X7 mm (σ 14 K) (K := K) hf K0 mm_r (by omega) (ov_back hIV hf K0 hKv.2.1)) dL_law_715 rfl rfl (Nat.le_of_ble_eq_true rfl) (Nat.le_of_ble_eq_true rfl) (Nat.le_of_ble_eq_true rfl) (show cells + 1 + 2 + 2 + 3 + 3 ≤ 674477 by omega) (show slots + 6 + 12 + 12 + 18 + 18 ≤ 7078194 by omega) (fun v_ h8 hp_ => ?_)
          obtain ⟨rfl, X8⟩ := hp_
          obtain ⟨fs8, o8⟩ := X8.obj
          rw [show su σ 14 K cd 14 K = cd from iup_s _ _ _]
          rw [su_back] at X8
          refine v_iload F (pc := 718) dL_law_718 rfl ?_
          refine v_icmp_ne F (pc := 720) (a := cd) (b := cd) 760 dL_law_720 (by decide) (by omega) (by omega) (fun c_6 => ?_) (fun c_6 => ?_)
          · exfalso; omega
          · refine v_aload_n F (pc := 723) dL_law_723 rfl ?_
            refine v_iload F (pc := 724) dL_law_724 rfl ?_
            refine v_iconst F (pc := 726) dL_law_726 ?_
            refine v_callV F (pc := 727) (As := [.int (iI (σ 15 K)), .int (iI (0))]) (rest := []) ci_L_51 ct_X4_worstOf cs_X4_worstOf (N_worstOf l g X8 (σ 15 K) 0 (by omega) (by omega)) dL_law_727 (k0 := 7) rfl rfl o8 rfl rfl (Nat.le_of_ble_eq_true rfl) (Nat.le_of_ble_eq_true rfl) (Nat.le_of_ble_eq_true rfl) (show cells + 1 + 2 + 2 + 3 + 3 + 2 ≤ 674477 by omega) (show slots + 6 + 12 + 12 + 18 + 18 + 12 ≤ 7078194 by omega) (fun v_ h9 hp_ => ?_) (fun _ _ z => z.elim)
            obtain ⟨rfl, X9⟩ := hp_
            obtain ⟨fs9, o9⟩ := X9.obj
            refine v_aload_n F (pc := 730) dL_law_730 rfl ?_
            refine v_iload F (pc := 731) dL_law_731 rfl ?_
            refine v_iconst F (pc := 733) dL_law_733 ?_
            refine v_callV F (pc := 734) (As := [.int (iI (σ 15 K)), .int (iI (1))]) (rest := [.int (iI (m_worst σ (σ 15 K) 0))]) ci_L_51 ct_X4_worstOf cs_X4_worstOf (N_worstOf l g X9 (σ 15 K) 1 (by omega) (by omega)) dL_law_734 (k0 := 7) rfl rfl o9 rfl rfl (Nat.le_of_ble_eq_true rfl) (Nat.le_of_ble_eq_true rfl) (Nat.le_of_ble_eq_true rfl) (show cells + 1 + 2 + 2 + 3 + 3 + 2 + 2 ≤ 674477 by omega) (show slots + 6 + 12 + 12 + 18 + 18 + 12 + 12 ≤ 7078194 by omega) (fun v_ h10 hp_ => ?_) (fun _ _ z => z.elim)
            obtain ⟨rfl, X10⟩ := hp_
            obtain ⟨fs10, o10⟩ := X10.obj
            refine v_iadd F (pc := 737) (a := m_worst σ (σ 15 K) 0) (b := m_worst σ (σ 15 K) 1) dL_law_737 ?_
            refine v_iload F (pc := 738) dL_law_738 rfl ?_
            refine v_icmp_ne F (pc := 740) (a := (m_worst σ (σ 15 K) 0) + (m_worst σ (σ 15 K) 1)) (b := (m_worst σ (σ 15 K) 0) + (m_worst σ (σ 15 K) 1)) 760 dL_law_740 (by decide) (by omega) (by omega) (fun c_7 => ?_) (fun c_7 => ?_)
            · exfalso; omega
            · refine v_aload_n F (pc := 743) dL_law_743 rfl ?_
              refine v_iload F (pc := 744) dL_law_744 rfl ?_
              refine v_iload F (pc := 746) dL_law_746 rfl ?_
              refine v_callW F (pc := 748) (n := 3) (As := [.ref x, .int (iI (mm)), .int (iI (cd))]) (rest := []) lm_corded lx_L lc_corded ⟨by decide, by decide, by decide +kernel⟩ ls_corded (KC_yes l g X10 mm cd hf K0 mm_r hkd.2.2.2 hov) dL_law_748 rfl rfl (Nat.le_of_ble_eq_true rfl) (Nat.le_of_ble_eq_true rfl) (Nat.le_of_ble_eq_true rfl) (show cells + 1 + 2 + 2 + 3 + 3 + 2 + 2 + 3 ≤ 674477 by omega) (show slots + 6 + 12 + 12 + 18 + 18 + 12 + 12 + 18 ≤ 7078194 by omega) (fun v_ h11 hp_ => ?_)
              obtain ⟨rfl, X11⟩ := hp_
              obtain ⟨fs11, o11⟩ := X11.obj
              refine v_iload F (pc := 751) dL_law_751 rfl ?_
              refine v_icmp_ne F (pc := 753) (a := σ 14 K) (b := σ 14 K) 760 dL_law_753 (by decide) (by omega) (by omega) (fun c_8 => ?_) (fun c_8 => ?_)
              · exfalso; omega
              · refine v_iconst F (pc := 756) dL_law_756 ?_
                refine v_goto F (pc := 757) 761 dL_law_757 (by decide) ?_
                refine v_istore F (pc := 761) (lo' := [some (.ref b), some (.ref x), some (.ref a2), some (.ref a3), some (.ref a4), some (.ref a5), some (.int (iI (σ 18 0))), some (.int (iI (1))), some (.int (iI (tn))), some (.int (iI (t))), none, some (.int (iI (y))), none, some (.int (iI (sz))), some (.int (iI (pw))), some (.int (iI (wt))), some (.int (iI (cd))), some (.int (iI (mm))), none, some (.int (iI (σ 17 0))), some (.int (iI (σ 15 K))), some (.int (iI ((m_worst σ (σ 15 K) 0) + (m_worst σ (σ 15 K) 1)))), some (.int (iI (σ 14 K))), none]) dL_law_761 (Nat.le_of_ble_eq_true rfl) rfl ?_
                refine v_goto F (pc := 763) 1144 dL_law_763 (by decide) ?_
                have e18 : su σ 14 K cd 18 0 = σ 18 0 := rfl
                exact v_wid (show cells + 1 + 2 + 2 + 3 + 3 + 2 + 2 + 3 ≤ cells + 130 by omega) (show slots + 6 + 12 + 12 + 18 + 18 + 12 + 12 + 18 ≤ slots + 18100 by omega) (V.fg (kk h11 (su σ 14 K cd) k0 X11 (hAR0.to (fun f z z1 z2 => by rw [su_n (by omega)])) (by omega) (by omega)) ⟨rfl, ⟨rfl, ⟨rfl, ⟨rfl, ⟨rfl, ⟨rfl, ⟨rfl, ⟨rfl, ⟨rfl, ⟨rfl, ⟨rfl, ⟨rfl, ⟨rfl, ⟨rfl, trivial⟩⟩⟩⟩⟩⟩⟩⟩⟩⟩⟩⟩⟩⟩)
    · exfalso; omega
