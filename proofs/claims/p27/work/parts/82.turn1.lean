/-! ===== the law: the deeds, the end of a turn ===== -/
-- the law, from 287
set_option maxRecDepth 100000 in
set_option maxHeartbeats 8000000 in
theorem D_all {pX : Program} {l : Launch} {eX : Env} {sS : State} {mX : MethodId} {args : Array Value} {below : List Frame} {meth : Method} {cX : Code} {Q : State → Prop} {g : gT} {AX : Nat → Prop} (F : Fx pX l sS mX args meth cX cL_law 24 ret RL g AX) {x a2 a3 a4 a5 b : Nat} {h0 : fH} {σ : sT} {k0 : fH} (X0 : SL g x h0 σ k0) (hAR : AR g k0 a2 a3 a4 a5 σ) {tn t y sz pw wt cd : Int} (hkd : cKD sz pw wt cd) (hgv : σ 18 0 < 1000) (hy : -2147483648 ≤ y ∧ y ≤ 2147483647) {cells slots : Nat} (hc : cells + 130 ≤ 674477) (hs : slots + 18100 ≤ 7078194) {d mm : Int} {th : Bool} (hd : 0 ≤ d ∧ d ≤ 15) (hth : th = true → ∃ K, m_find σ mm = K ∧ 0 ≤ K ∧ (-2147483648 ≤ mm ∧ mm ≤ 2147483647)) (kk : ∀ (h2 : fH) (σ2 : sT) (k2 : fH), SL g x h2 σ2 k2 → AR g k2 a2 a3 a4 a5 σ2 → 0 ≤ σ2 18 0 → σ2 18 0 ≤ σ 18 0 + 1 → V pX l eX room_1 sS mX args below meth cX Q 24 g AX h2 (cells + 130) (slots + 18100) 1144 [some (.ref b), some (.ref x), some (.ref a2), some (.ref a3), some (.ref a4), some (.ref a5), some (.int (iI (σ2 18 0))), some (.int (iI (1))), some (.int (iI (tn))), some (.int (iI (t))), none, none, none, some (.int (iI (sz))), some (.int (iI (pw))), some (.int (iI (wt))), some (.int (iI (cd))), none, none, none, none, none, none, none] []) : V pX l eX room_1 sS mX args below meth cX Q 24 g AX (h0) (cells) (slots) 287 [some (.ref b), some (.ref x), some (.ref a2), some (.ref a3), some (.ref a4), some (.ref a5), some (.int (iI (σ 18 0))), some (.int (iI (1))), some (.int (iI (tn))), some (.int (iI (t))), none, some (.int (iI (y))), some (.int (iI (d))), some (.int (iI (sz))), some (.int (iI (pw))), some (.int (iI (wt))), some (.int (iI (cd))), some (.int (iI (mm))), some (.int (iI (bI th))), some (.int (iI (σ 17 0))), none, none, none, none] [] := by
  have hIV := X0.iv
  have hm := mb_nm hIV.1
  have hn := mb_nr hIV.1
  have h18 : (0 : Int) ≤ σ 18 0 := (hIV.1 18 0 (by decide) (by decide)).1
  have hAR0 := hAR
  obtain ⟨⟨d23, d24, d25, d34, d35, d45⟩, SF, LF, WF, MF, q2, q3, q4, q5, hS, hM⟩ := hAR
  obtain ⟨fs0, o0⟩ := X0.obj
  refine v_iload F (pc := 287) dL_law_287 rfl ?_
  refine v_if_ne F (pc := 289) (a := d) 406 dL_law_289 (by decide) (by omega) (fun c_1 => ?_) (fun c_1 => ?_)
  · refine v_iload F (pc := 406) dL_law_406 rfl ?_
    refine v_bipush F (pc := 408) dL_law_408 (by decide) ?_
    refine v_icmp_ge F (pc := 410) (a := d) (b := 7) 555 dL_law_410 (by decide) (by omega) (by omega) (fun c_2 => ?_) (fun c_2 => ?_)
    · refine v_iload F (pc := 555) dL_law_555 rfl ?_
      refine v_bipush F (pc := 557) dL_law_557 (by decide) ?_
      refine v_icmp_ge F (pc := 559) (a := d) (b := 9) 617 dL_law_559 (by decide) (by omega) (by omega) (fun c_3 => ?_) (fun c_3 => ?_)
      · refine v_iload F (pc := 617) dL_law_617 rfl ?_
        refine v_bipush F (pc := 619) dL_law_619 (by decide) ?_
        refine v_icmp_ne F (pc := 621) (a := d) (b := 9) 766 dL_law_621 (by decide) (by omega) (by omega) (fun c_4 => ?_) (fun c_4 => ?_)
        · refine v_iload F (pc := 766) dL_law_766 rfl ?_
          refine v_bipush F (pc := 768) dL_law_768 (by decide) ?_
          refine v_icmp_ne F (pc := 770) (a := d) (b := 10) 876 dL_law_770 (by decide) (by omega) (by omega) (fun c_5 => ?_) (fun c_5 => ?_)
          · refine v_iload F (pc := 876) dL_law_876 rfl ?_
            refine v_bipush F (pc := 878) dL_law_878 (by decide) ?_
            refine v_icmp_ne F (pc := 880) (a := d) (b := 11) 1018 dL_law_880 (by decide) (by omega) (by omega) (fun c_6 => ?_) (fun c_6 => ?_)
            · refine v_iload F (pc := 1018) dL_law_1018 rfl ?_
              refine v_bipush F (pc := 1020) dL_law_1020 (by decide) ?_
              refine v_icmp_ge F (pc := 1022) (a := d) (b := 14) 1092 dL_law_1022 (by decide) (by omega) (by omega) (fun c_7 => ?_) (fun c_7 => ?_)
              · exact V.fg (D_pack F X0 hAR0 hkd hgv hy hc hs  kk) ⟨rfl, ⟨rfl, ⟨rfl, ⟨rfl, ⟨rfl, ⟨rfl, ⟨rfl, ⟨rfl, ⟨rfl, ⟨rfl, ⟨rfl, ⟨rfl, ⟨rfl, ⟨rfl, ⟨rfl, ⟨rfl, trivial⟩⟩⟩⟩⟩⟩⟩⟩⟩⟩⟩⟩⟩⟩⟩⟩
              · exact V.fg (D_switch F X0 hAR0 hkd hgv hy hc hs  kk) ⟨rfl, ⟨rfl, ⟨rfl, ⟨rfl, ⟨rfl, ⟨rfl, ⟨rfl, ⟨rfl, ⟨rfl, ⟨rfl, ⟨rfl, ⟨rfl, ⟨rfl, ⟨rfl, ⟨rfl, ⟨rfl, trivial⟩⟩⟩⟩⟩⟩⟩⟩⟩⟩⟩⟩⟩⟩⟩⟩
            · exact V.fg (D_row F X0 hAR0 hkd hgv hy hc hs  kk) ⟨rfl, ⟨rfl, ⟨rfl, ⟨rfl, ⟨rfl, ⟨rfl, ⟨rfl, ⟨rfl, ⟨rfl, ⟨rfl, ⟨rfl, ⟨rfl, ⟨rfl, ⟨rfl, ⟨rfl, ⟨rfl, trivial⟩⟩⟩⟩⟩⟩⟩⟩⟩⟩⟩⟩⟩⟩⟩⟩
          · exact V.fg (D_feed F X0 hAR0 hkd hgv hy hc hs  kk) ⟨rfl, ⟨rfl, ⟨rfl, ⟨rfl, ⟨rfl, ⟨rfl, ⟨rfl, ⟨rfl, ⟨rfl, ⟨rfl, ⟨rfl, ⟨rfl, ⟨rfl, ⟨rfl, ⟨rfl, ⟨rfl, trivial⟩⟩⟩⟩⟩⟩⟩⟩⟩⟩⟩⟩⟩⟩⟩⟩
        · refine v_iload F (pc := 624) dL_law_624 rfl ?_
          refine v_if_eqB F (pc := 626) (b := th) 766 dL_law_626 (by decide) (fun c_8 => ?_) (fun c_8 => ?_)
          · refine v_iload F (pc := 766) dL_law_766 rfl ?_
            refine v_bipush F (pc := 768) dL_law_768 (by decide) ?_
            refine v_icmp_ne F (pc := 770) (a := d) (b := 10) 876 dL_law_770 (by decide) (by omega) (by omega) (fun c_9 => ?_) (fun c_9 => ?_)
            · refine v_iload F (pc := 876) dL_law_876 rfl ?_
              refine v_bipush F (pc := 878) dL_law_878 (by decide) ?_
              refine v_icmp_ne F (pc := 880) (a := d) (b := 11) 1018 dL_law_880 (by decide) (by omega) (by omega) (fun c_10 => ?_) (fun c_10 => ?_)
              · refine v_iload F (pc := 1018) dL_law_1018 rfl ?_
                refine v_bipush F (pc := 1020) dL_law_1020 (by decide) ?_
                refine v_icmp_ge F (pc := 1022) (a := d) (b := 14) 1092 dL_law_1022 (by decide) (by omega) (by omega) (fun c_11 => ?_) (fun c_11 => ?_)
                · exact V.fg (D_pack F X0 hAR0 hkd hgv hy hc hs  kk) ⟨rfl, ⟨rfl, ⟨rfl, ⟨rfl, ⟨rfl, ⟨rfl, ⟨rfl, ⟨rfl, ⟨rfl, ⟨rfl, ⟨rfl, ⟨rfl, ⟨rfl, ⟨rfl, ⟨rfl, ⟨rfl, trivial⟩⟩⟩⟩⟩⟩⟩⟩⟩⟩⟩⟩⟩⟩⟩⟩
                · exact V.fg (D_switch F X0 hAR0 hkd hgv hy hc hs  kk) ⟨rfl, ⟨rfl, ⟨rfl, ⟨rfl, ⟨rfl, ⟨rfl, ⟨rfl, ⟨rfl, ⟨rfl, ⟨rfl, ⟨rfl, ⟨rfl, ⟨rfl, ⟨rfl, ⟨rfl, ⟨rfl, trivial⟩⟩⟩⟩⟩⟩⟩⟩⟩⟩⟩⟩⟩⟩⟩⟩
              · exact V.fg (D_row F X0 hAR0 hkd hgv hy hc hs  kk) ⟨rfl, ⟨rfl, ⟨rfl, ⟨rfl, ⟨rfl, ⟨rfl, ⟨rfl, ⟨rfl, ⟨rfl, ⟨rfl, ⟨rfl, ⟨rfl, ⟨rfl, ⟨rfl, ⟨rfl, ⟨rfl, trivial⟩⟩⟩⟩⟩⟩⟩⟩⟩⟩⟩⟩⟩⟩⟩⟩
            · exact V.fg (D_feed F X0 hAR0 hkd hgv hy hc hs  kk) ⟨rfl, ⟨rfl, ⟨rfl, ⟨rfl, ⟨rfl, ⟨rfl, ⟨rfl, ⟨rfl, ⟨rfl, ⟨rfl, ⟨rfl, ⟨rfl, ⟨rfl, ⟨rfl, ⟨rfl, ⟨rfl, trivial⟩⟩⟩⟩⟩⟩⟩⟩⟩⟩⟩⟩⟩⟩⟩⟩
          · obtain ⟨K, hf, K0, mm_r⟩ := hth c_8
            exact V.fg (D_cord F X0 hAR0 hkd hgv hy hc hs hf K0 mm_r kk) ⟨rfl, ⟨rfl, ⟨rfl, ⟨rfl, ⟨rfl, ⟨rfl, ⟨rfl, ⟨rfl, ⟨rfl, ⟨rfl, ⟨rfl, ⟨rfl, ⟨rfl, ⟨rfl, ⟨rfl, ⟨rfl, ⟨rfl, trivial⟩⟩⟩⟩⟩⟩⟩⟩⟩⟩⟩⟩⟩⟩⟩⟩⟩
      · refine v_iload F (pc := 562) dL_law_562 rfl ?_
        refine v_if_eqB F (pc := 564) (b := th) 617 dL_law_564 (by decide) (fun c_12 => ?_) (fun c_12 => ?_)
        · refine v_iload F (pc := 617) dL_law_617 rfl ?_
          refine v_bipush F (pc := 619) dL_law_619 (by decide) ?_
          refine v_icmp_ne F (pc := 621) (a := d) (b := 9) 766 dL_law_621 (by decide) (by omega) (by omega) (fun c_13 => ?_) (fun c_13 => ?_)
          · refine v_iload F (pc := 766) dL_law_766 rfl ?_
            refine v_bipush F (pc := 768) dL_law_768 (by decide) ?_
            refine v_icmp_ne F (pc := 770) (a := d) (b := 10) 876 dL_law_770 (by decide) (by omega) (by omega) (fun c_14 => ?_) (fun c_14 => ?_)
            · refine v_iload F (pc := 876) dL_law_876 rfl ?_
              refine v_bipush F (pc := 878) dL_law_878 (by decide) ?_
              refine v_icmp_ne F (pc := 880) (a := d) (b := 11) 1018 dL_law_880 (by decide) (by omega) (by omega) (fun c_15 => ?_) (fun c_15 => ?_)
              · refine v_iload F (pc := 1018) dL_law_1018 rfl ?_
                refine v_bipush F (pc := 1020) dL_law_1020 (by decide) ?_
                refine v_icmp_ge F (pc := 1022) (a := d) (b := 14) 1092 dL_law_1022 (by decide) (by omega) (by omega) (fun c_16 => ?_) (fun c_16 => ?_)
                · exact V.fg (D_pack F X0 hAR0 hkd hgv hy hc hs  kk) ⟨rfl, ⟨rfl, ⟨rfl, ⟨rfl, ⟨rfl, ⟨rfl, ⟨rfl, ⟨rfl, ⟨rfl, ⟨rfl, ⟨rfl, ⟨rfl, ⟨rfl, ⟨rfl, ⟨rfl, ⟨rfl, trivial⟩⟩⟩⟩⟩⟩⟩⟩⟩⟩⟩⟩⟩⟩⟩⟩
                · exact V.fg (D_switch F X0 hAR0 hkd hgv hy hc hs  kk) ⟨rfl, ⟨rfl, ⟨rfl, ⟨rfl, ⟨rfl, ⟨rfl, ⟨rfl, ⟨rfl, ⟨rfl, ⟨rfl, ⟨rfl, ⟨rfl, ⟨rfl, ⟨rfl, ⟨rfl, ⟨rfl, trivial⟩⟩⟩⟩⟩⟩⟩⟩⟩⟩⟩⟩⟩⟩⟩⟩
              · exact V.fg (D_row F X0 hAR0 hkd hgv hy hc hs  kk) ⟨rfl, ⟨rfl, ⟨rfl, ⟨rfl, ⟨rfl, ⟨rfl, ⟨rfl, ⟨rfl, ⟨rfl, ⟨rfl, ⟨rfl, ⟨rfl, ⟨rfl, ⟨rfl, ⟨rfl, ⟨rfl, trivial⟩⟩⟩⟩⟩⟩⟩⟩⟩⟩⟩⟩⟩⟩⟩⟩
            · exact V.fg (D_feed F X0 hAR0 hkd hgv hy hc hs  kk) ⟨rfl, ⟨rfl, ⟨rfl, ⟨rfl, ⟨rfl, ⟨rfl, ⟨rfl, ⟨rfl, ⟨rfl, ⟨rfl, ⟨rfl, ⟨rfl, ⟨rfl, ⟨rfl, ⟨rfl, ⟨rfl, trivial⟩⟩⟩⟩⟩⟩⟩⟩⟩⟩⟩⟩⟩⟩⟩⟩
          · refine v_iload F (pc := 624) dL_law_624 rfl ?_
            refine v_if_eqB F (pc := 626) (b := th) 766 dL_law_626 (by decide) (fun c_17 => ?_) (fun c_17 => ?_)
            · refine v_iload F (pc := 766) dL_law_766 rfl ?_
              refine v_bipush F (pc := 768) dL_law_768 (by decide) ?_
              refine v_icmp_ne F (pc := 770) (a := d) (b := 10) 876 dL_law_770 (by decide) (by omega) (by omega) (fun c_18 => ?_) (fun c_18 => ?_)
              · refine v_iload F (pc := 876) dL_law_876 rfl ?_
                refine v_bipush F (pc := 878) dL_law_878 (by decide) ?_
                refine v_icmp_ne F (pc := 880) (a := d) (b := 11) 1018 dL_law_880 (by decide) (by omega) (by omega) (fun c_19 => ?_) (fun c_19 => ?_)
                · refine v_iload F (pc := 1018) dL_law_1018 rfl ?_
                  refine v_bipush F (pc := 1020) dL_law_1020 (by decide) ?_
                  refine v_icmp_ge F (pc := 1022) (a := d) (b := 14) 1092 dL_law_1022 (by decide) (by omega) (by omega) (fun c_20 => ?_) (fun c_20 => ?_)
                  · exact V.fg (D_pack F X0 hAR0 hkd hgv hy hc hs  kk) ⟨rfl, ⟨rfl, ⟨rfl, ⟨rfl, ⟨rfl, ⟨rfl, ⟨rfl, ⟨rfl, ⟨rfl, ⟨rfl, ⟨rfl, ⟨rfl, ⟨rfl, ⟨rfl, ⟨rfl, ⟨rfl, trivial⟩⟩⟩⟩⟩⟩⟩⟩⟩⟩⟩⟩⟩⟩⟩⟩
                  · exact V.fg (D_switch F X0 hAR0 hkd hgv hy hc hs  kk) ⟨rfl, ⟨rfl, ⟨rfl, ⟨rfl, ⟨rfl, ⟨rfl, ⟨rfl, ⟨rfl, ⟨rfl, ⟨rfl, ⟨rfl, ⟨rfl, ⟨rfl, ⟨rfl, ⟨rfl, ⟨rfl, trivial⟩⟩⟩⟩⟩⟩⟩⟩⟩⟩⟩⟩⟩⟩⟩⟩
                · exact V.fg (D_row F X0 hAR0 hkd hgv hy hc hs  kk) ⟨rfl, ⟨rfl, ⟨rfl, ⟨rfl, ⟨rfl, ⟨rfl, ⟨rfl, ⟨rfl, ⟨rfl, ⟨rfl, ⟨rfl, ⟨rfl, ⟨rfl, ⟨rfl, ⟨rfl, ⟨rfl, trivial⟩⟩⟩⟩⟩⟩⟩⟩⟩⟩⟩⟩⟩⟩⟩⟩
              · exact V.fg (D_feed F X0 hAR0 hkd hgv hy hc hs  kk) ⟨rfl, ⟨rfl, ⟨rfl, ⟨rfl, ⟨rfl, ⟨rfl, ⟨rfl, ⟨rfl, ⟨rfl, ⟨rfl, ⟨rfl, ⟨rfl, ⟨rfl, ⟨rfl, ⟨rfl, ⟨rfl, trivial⟩⟩⟩⟩⟩⟩⟩⟩⟩⟩⟩⟩⟩⟩⟩⟩
            · obtain ⟨K, hf, K0, mm_r⟩ := hth c_17
              exact V.fg (D_cord F X0 hAR0 hkd hgv hy hc hs hf K0 mm_r kk) ⟨rfl, ⟨rfl, ⟨rfl, ⟨rfl, ⟨rfl, ⟨rfl, ⟨rfl, ⟨rfl, ⟨rfl, ⟨rfl, ⟨rfl, ⟨rfl, ⟨rfl, ⟨rfl, ⟨rfl, ⟨rfl, ⟨rfl, trivial⟩⟩⟩⟩⟩⟩⟩⟩⟩⟩⟩⟩⟩⟩⟩⟩⟩
        · obtain ⟨K, hf, K0, mm_r⟩ := hth c_12
          exact V.fg (D_take F X0 hAR0 hkd hgv hy hc hs hf K0 mm_r kk) ⟨rfl, ⟨rfl, ⟨rfl, ⟨rfl, ⟨rfl, ⟨rfl, ⟨rfl, ⟨rfl, ⟨rfl, ⟨rfl, ⟨rfl, ⟨rfl, ⟨rfl, ⟨rfl, ⟨rfl, ⟨rfl, ⟨rfl, trivial⟩⟩⟩⟩⟩⟩⟩⟩⟩⟩⟩⟩⟩⟩⟩⟩⟩
    · exact V.fg (D_place F X0 hAR0 hkd hgv hy hc hs  kk) ⟨rfl, ⟨rfl, ⟨rfl, ⟨rfl, ⟨rfl, ⟨rfl, ⟨rfl, ⟨rfl, ⟨rfl, ⟨rfl, ⟨rfl, ⟨rfl, ⟨rfl, ⟨rfl, ⟨rfl, ⟨rfl, trivial⟩⟩⟩⟩⟩⟩⟩⟩⟩⟩⟩⟩⟩⟩⟩⟩
  · refine v_aload_n F (pc := 292) dL_law_292 rfl ?_
    refine v_callV F (pc := 293) (As := []) (rest := []) ci_L_45 ct_X4_racks cs_X4_racks (N_racks l g X0) dL_law_293 (k0 := 7) rfl rfl o0 rfl rfl (Nat.le_of_ble_eq_true rfl) (Nat.le_of_ble_eq_true rfl) (Nat.le_of_ble_eq_true rfl) (show cells + 0 ≤ 674477 by omega) (show slots + 0 ≤ 7078194 by omega) (fun v_ h1 hp_ => ?_) (fun _ _ z => z.elim)
    obtain ⟨rfl, X1⟩ := hp_
    obtain ⟨fs1, o1⟩ := X1.obj
    refine v_bipush F (pc := 296) dL_law_296 (by decide) ?_
    refine v_icmp_ge F (pc := 298) (a := σ 5 0) (b := 8) 406 dL_law_298 (by decide) (by omega) (by omega) (fun c_21 => ?_) (fun c_21 => ?_)
    · refine v_iload F (pc := 406) dL_law_406 rfl ?_
      refine v_bipush F (pc := 408) dL_law_408 (by decide) ?_
      refine v_icmp_ge F (pc := 410) (a := d) (b := 7) 555 dL_law_410 (by decide) (by omega) (by omega) (fun c_22 => ?_) (fun c_22 => ?_)
      · refine v_iload F (pc := 555) dL_law_555 rfl ?_
        refine v_bipush F (pc := 557) dL_law_557 (by decide) ?_
        refine v_icmp_ge F (pc := 559) (a := d) (b := 9) 617 dL_law_559 (by decide) (by omega) (by omega) (fun c_23 => ?_) (fun c_23 => ?_)
        · refine v_iload F (pc := 617) dL_law_617 rfl ?_
          refine v_bipush F (pc := 619) dL_law_619 (by decide) ?_
          refine v_icmp_ne F (pc := 621) (a := d) (b := 9) 766 dL_law_621 (by decide) (by omega) (by omega) (fun c_24 => ?_) (fun c_24 => ?_)
          · refine v_iload F (pc := 766) dL_law_766 rfl ?_
            refine v_bipush F (pc := 768) dL_law_768 (by decide) ?_
            refine v_icmp_ne F (pc := 770) (a := d) (b := 10) 876 dL_law_770 (by decide) (by omega) (by omega) (fun c_25 => ?_) (fun c_25 => ?_)
            · refine v_iload F (pc := 876) dL_law_876 rfl ?_
              refine v_bipush F (pc := 878) dL_law_878 (by decide) ?_
              refine v_icmp_ne F (pc := 880) (a := d) (b := 11) 1018 dL_law_880 (by decide) (by omega) (by omega) (fun c_26 => ?_) (fun c_26 => ?_)
              · refine v_iload F (pc := 1018) dL_law_1018 rfl ?_
                refine v_bipush F (pc := 1020) dL_law_1020 (by decide) ?_
                refine v_icmp_ge F (pc := 1022) (a := d) (b := 14) 1092 dL_law_1022 (by decide) (by omega) (by omega) (fun c_27 => ?_) (fun c_27 => ?_)
                · exact V.fg (D_pack F X1 hAR0 hkd hgv hy hc hs  kk) ⟨rfl, ⟨rfl, ⟨rfl, ⟨rfl, ⟨rfl, ⟨rfl, ⟨rfl, ⟨rfl, ⟨rfl, ⟨rfl, ⟨rfl, ⟨rfl, ⟨rfl, ⟨rfl, ⟨rfl, ⟨rfl, trivial⟩⟩⟩⟩⟩⟩⟩⟩⟩⟩⟩⟩⟩⟩⟩⟩
                · exact V.fg (D_switch F X1 hAR0 hkd hgv hy hc hs  kk) ⟨rfl, ⟨rfl, ⟨rfl, ⟨rfl, ⟨rfl, ⟨rfl, ⟨rfl, ⟨rfl, ⟨rfl, ⟨rfl, ⟨rfl, ⟨rfl, ⟨rfl, ⟨rfl, ⟨rfl, ⟨rfl, trivial⟩⟩⟩⟩⟩⟩⟩⟩⟩⟩⟩⟩⟩⟩⟩⟩
              · exact V.fg (D_row F X1 hAR0 hkd hgv hy hc hs  kk) ⟨rfl, ⟨rfl, ⟨rfl, ⟨rfl, ⟨rfl, ⟨rfl, ⟨rfl, ⟨rfl, ⟨rfl, ⟨rfl, ⟨rfl, ⟨rfl, ⟨rfl, ⟨rfl, ⟨rfl, ⟨rfl, trivial⟩⟩⟩⟩⟩⟩⟩⟩⟩⟩⟩⟩⟩⟩⟩⟩
            · exact V.fg (D_feed F X1 hAR0 hkd hgv hy hc hs  kk) ⟨rfl, ⟨rfl, ⟨rfl, ⟨rfl, ⟨rfl, ⟨rfl, ⟨rfl, ⟨rfl, ⟨rfl, ⟨rfl, ⟨rfl, ⟨rfl, ⟨rfl, ⟨rfl, ⟨rfl, ⟨rfl, trivial⟩⟩⟩⟩⟩⟩⟩⟩⟩⟩⟩⟩⟩⟩⟩⟩
          · refine v_iload F (pc := 624) dL_law_624 rfl ?_
            refine v_if_eqB F (pc := 626) (b := th) 766 dL_law_626 (by decide) (fun c_28 => ?_) (fun c_28 => ?_)
            · refine v_iload F (pc := 766) dL_law_766 rfl ?_
              refine v_bipush F (pc := 768) dL_law_768 (by decide) ?_
              refine v_icmp_ne F (pc := 770) (a := d) (b := 10) 876 dL_law_770 (by decide) (by omega) (by omega) (fun c_29 => ?_) (fun c_29 => ?_)
              · refine v_iload F (pc := 876) dL_law_876 rfl ?_
                refine v_bipush F (pc := 878) dL_law_878 (by decide) ?_
                refine v_icmp_ne F (pc := 880) (a := d) (b := 11) 1018 dL_law_880 (by decide) (by omega) (by omega) (fun c_30 => ?_) (fun c_30 => ?_)
                · refine v_iload F (pc := 1018) dL_law_1018 rfl ?_
                  refine v_bipush F (pc := 1020) dL_law_1020 (by decide) ?_
                  refine v_icmp_ge F (pc := 1022) (a := d) (b := 14) 1092 dL_law_1022 (by decide) (by omega) (by omega) (fun c_31 => ?_) (fun c_31 => ?_)
                  · exact V.fg (D_pack F X1 hAR0 hkd hgv hy hc hs  kk) ⟨rfl, ⟨rfl, ⟨rfl, ⟨rfl, ⟨rfl, ⟨rfl, ⟨rfl, ⟨rfl, ⟨rfl, ⟨rfl, ⟨rfl, ⟨rfl, ⟨rfl, ⟨rfl, ⟨rfl, ⟨rfl, trivial⟩⟩⟩⟩⟩⟩⟩⟩⟩⟩⟩⟩⟩⟩⟩⟩
                  · exact V.fg (D_switch F X1 hAR0 hkd hgv hy hc hs  kk) ⟨rfl, ⟨rfl, ⟨rfl, ⟨rfl, ⟨rfl, ⟨rfl, ⟨rfl, ⟨rfl, ⟨rfl, ⟨rfl, ⟨rfl, ⟨rfl, ⟨rfl, ⟨rfl, ⟨rfl, ⟨rfl, trivial⟩⟩⟩⟩⟩⟩⟩⟩⟩⟩⟩⟩⟩⟩⟩⟩
                · exact V.fg (D_row F X1 hAR0 hkd hgv hy hc hs  kk) ⟨rfl, ⟨rfl, ⟨rfl, ⟨rfl, ⟨rfl, ⟨rfl, ⟨rfl, ⟨rfl, ⟨rfl, ⟨rfl, ⟨rfl, ⟨rfl, ⟨rfl, ⟨rfl, ⟨rfl, ⟨rfl, trivial⟩⟩⟩⟩⟩⟩⟩⟩⟩⟩⟩⟩⟩⟩⟩⟩
              · exact V.fg (D_feed F X1 hAR0 hkd hgv hy hc hs  kk) ⟨rfl, ⟨rfl, ⟨rfl, ⟨rfl, ⟨rfl, ⟨rfl, ⟨rfl, ⟨rfl, ⟨rfl, ⟨rfl, ⟨rfl, ⟨rfl, ⟨rfl, ⟨rfl, ⟨rfl, ⟨rfl, trivial⟩⟩⟩⟩⟩⟩⟩⟩⟩⟩⟩⟩⟩⟩⟩⟩
            · obtain ⟨K, hf, K0, mm_r⟩ := hth c_28
              exact V.fg (D_cord F X1 hAR0 hkd hgv hy hc hs hf K0 mm_r kk) ⟨rfl, ⟨rfl, ⟨rfl, ⟨rfl, ⟨rfl, ⟨rfl, ⟨rfl, ⟨rfl, ⟨rfl, ⟨rfl, ⟨rfl, ⟨rfl, ⟨rfl, ⟨rfl, ⟨rfl, ⟨rfl, ⟨rfl, trivial⟩⟩⟩⟩⟩⟩⟩⟩⟩⟩⟩⟩⟩⟩⟩⟩⟩
        · refine v_iload F (pc := 562) dL_law_562 rfl ?_
          refine v_if_eqB F (pc := 564) (b := th) 617 dL_law_564 (by decide) (fun c_32 => ?_) (fun c_32 => ?_)
          · refine v_iload F (pc := 617) dL_law_617 rfl ?_
            refine v_bipush F (pc := 619) dL_law_619 (by decide) ?_
            refine v_icmp_ne F (pc := 621) (a := d) (b := 9) 766 dL_law_621 (by decide) (by omega) (by omega) (fun c_33 => ?_) (fun c_33 => ?_)
            · refine v_iload F (pc := 766) dL_law_766 rfl ?_
              refine v_bipush F (pc := 768) dL_law_768 (by decide) ?_
              refine v_icmp_ne F (pc := 770) (a := d) (b := 10) 876 dL_law_770 (by decide) (by omega) (by omega) (fun c_34 => ?_) (fun c_34 => ?_)
              · refine v_iload F (pc := 876) dL_law_876 rfl ?_
                refine v_bipush F (pc := 878) dL_law_878 (by decide) ?_
                refine v_icmp_ne F (pc := 880) (a := d) (b := 11) 1018 dL_law_880 (by decide) (by omega) (by omega) (fun c_35 => ?_) (fun c_35 => ?_)
                · refine v_iload F (pc := 1018) dL_law_1018 rfl ?_
                  refine v_bipush F (pc := 1020) dL_law_1020 (by decide) ?_
                  refine v_icmp_ge F (pc := 1022) (a := d) (b := 14) 1092 dL_law_1022 (by decide) (by omega) (by omega) (fun c_36 => ?_) (fun c_36 => ?_)
                  · exact V.fg (D_pack F X1 hAR0 hkd hgv hy hc hs  kk) ⟨rfl, ⟨rfl, ⟨rfl, ⟨rfl, ⟨rfl, ⟨rfl, ⟨rfl, ⟨rfl, ⟨rfl, ⟨rfl, ⟨rfl, ⟨rfl, ⟨rfl, ⟨rfl, ⟨rfl, ⟨rfl, trivial⟩⟩⟩⟩⟩⟩⟩⟩⟩⟩⟩⟩⟩⟩⟩⟩
                  · exact V.fg (D_switch F X1 hAR0 hkd hgv hy hc hs  kk) ⟨rfl, ⟨rfl, ⟨rfl, ⟨rfl, ⟨rfl, ⟨rfl, ⟨rfl, ⟨rfl, ⟨rfl, ⟨rfl, ⟨rfl, ⟨rfl, ⟨rfl, ⟨rfl, ⟨rfl, ⟨rfl, trivial⟩⟩⟩⟩⟩⟩⟩⟩⟩⟩⟩⟩⟩⟩⟩⟩
                · exact V.fg (D_row F X1 hAR0 hkd hgv hy hc hs  kk) ⟨rfl, ⟨rfl, ⟨rfl, ⟨rfl, ⟨rfl, ⟨rfl, ⟨rfl, ⟨rfl, ⟨rfl, ⟨rfl, ⟨rfl, ⟨rfl, ⟨rfl, ⟨rfl, ⟨rfl, ⟨rfl, trivial⟩⟩⟩⟩⟩⟩⟩⟩⟩⟩⟩⟩⟩⟩⟩⟩
              · exact V.fg (D_feed F X1 hAR0 hkd hgv hy hc hs  kk) ⟨rfl, ⟨rfl, ⟨rfl, ⟨rfl, ⟨rfl, ⟨rfl, ⟨rfl, ⟨rfl, ⟨rfl, ⟨rfl, ⟨rfl, ⟨rfl, ⟨rfl, ⟨rfl, ⟨rfl, ⟨rfl, trivial⟩⟩⟩⟩⟩⟩⟩⟩⟩⟩⟩⟩⟩⟩⟩⟩
            · refine v_iload F (pc := 624) dL_law_624 rfl ?_
              refine v_if_eqB F (pc := 626) (b := th) 766 dL_law_626 (by decide) (fun c_37 => ?_) (fun c_37 => ?_)
              · refine v_iload F (pc := 766) dL_law_766 rfl ?_
                refine v_bipush F (pc := 768) dL_law_768 (by decide) ?_
                refine v_icmp_ne F (pc := 770) (a := d) (b := 10) 876 dL_law_770 (by decide) (by omega) (by omega) (fun c_38 => ?_) (fun c_38 => ?_)
                · refine v_iload F (pc := 876) dL_law_876 rfl ?_
                  refine v_bipush F (pc := 878) dL_law_878 (by decide) ?_
                  refine v_icmp_ne F (pc := 880) (a := d) (b := 11) 1018 dL_law_880 (by decide) (by omega) (by omega) (fun c_39 => ?_) (fun c_39 => ?_)
                  · refine v_iload F (pc := 1018) dL_law_1018 rfl ?_
                    refine v_bipush F (pc := 1020) dL_law_1020 (by decide) ?_
                    refine v_icmp_ge F (pc := 1022) (a := d) (b := 14) 1092 dL_law_1022 (by decide) (by omega) (by omega) (fun c_40 => ?_) (fun c_40 => ?_)
                    · exact V.fg (D_pack F X1 hAR0 hkd hgv hy hc hs  kk) ⟨rfl, ⟨rfl, ⟨rfl, ⟨rfl, ⟨rfl, ⟨rfl, ⟨rfl, ⟨rfl, ⟨rfl, ⟨rfl, ⟨rfl, ⟨rfl, ⟨rfl, ⟨rfl, ⟨rfl, ⟨rfl, trivial⟩⟩⟩⟩⟩⟩⟩⟩⟩⟩⟩⟩⟩⟩⟩⟩
                    · exact V.fg (D_switch F X1 hAR0 hkd hgv hy hc hs  kk) ⟨rfl, ⟨rfl, ⟨rfl, ⟨rfl, ⟨rfl, ⟨rfl, ⟨rfl, ⟨rfl, ⟨rfl, ⟨rfl, ⟨rfl, ⟨rfl, ⟨rfl, ⟨rfl, ⟨rfl, ⟨rfl, trivial⟩⟩⟩⟩⟩⟩⟩⟩⟩⟩⟩⟩⟩⟩⟩⟩
                  · exact V.fg (D_row F X1 hAR0 hkd hgv hy hc hs  kk) ⟨rfl, ⟨rfl, ⟨rfl, ⟨rfl, ⟨rfl, ⟨rfl, ⟨rfl, ⟨rfl, ⟨rfl, ⟨rfl, ⟨rfl, ⟨rfl, ⟨rfl, ⟨rfl, ⟨rfl, ⟨rfl, trivial⟩⟩⟩⟩⟩⟩⟩⟩⟩⟩⟩⟩⟩⟩⟩⟩
                · exact V.fg (D_feed F X1 hAR0 hkd hgv hy hc hs  kk) ⟨rfl, ⟨rfl, ⟨rfl, ⟨rfl, ⟨rfl, ⟨rfl, ⟨rfl, ⟨rfl, ⟨rfl, ⟨rfl, ⟨rfl, ⟨rfl, ⟨rfl, ⟨rfl, ⟨rfl, ⟨rfl, trivial⟩⟩⟩⟩⟩⟩⟩⟩⟩⟩⟩⟩⟩⟩⟩⟩
              · obtain ⟨K, hf, K0, mm_r⟩ := hth c_37
                exact V.fg (D_cord F X1 hAR0 hkd hgv hy hc hs hf K0 mm_r kk) ⟨rfl, ⟨rfl, ⟨rfl, ⟨rfl, ⟨rfl, ⟨rfl, ⟨rfl, ⟨rfl, ⟨rfl, ⟨rfl, ⟨rfl, ⟨rfl, ⟨rfl, ⟨rfl, ⟨rfl, ⟨rfl, ⟨rfl, trivial⟩⟩⟩⟩⟩⟩⟩⟩⟩⟩⟩⟩⟩⟩⟩⟩⟩
          · obtain ⟨K, hf, K0, mm_r⟩ := hth c_32
            exact V.fg (D_take F X1 hAR0 hkd hgv hy hc hs hf K0 mm_r kk) ⟨rfl, ⟨rfl, ⟨rfl, ⟨rfl, ⟨rfl, ⟨rfl, ⟨rfl, ⟨rfl, ⟨rfl, ⟨rfl, ⟨rfl, ⟨rfl, ⟨rfl, ⟨rfl, ⟨rfl, ⟨rfl, ⟨rfl, trivial⟩⟩⟩⟩⟩⟩⟩⟩⟩⟩⟩⟩⟩⟩⟩⟩⟩
      · exact V.fg (D_place F X1 hAR0 hkd hgv hy hc hs  kk) ⟨rfl, ⟨rfl, ⟨rfl, ⟨rfl, ⟨rfl, ⟨rfl, ⟨rfl, ⟨rfl, ⟨rfl, ⟨rfl, ⟨rfl, ⟨rfl, ⟨rfl, ⟨rfl, ⟨rfl, ⟨rfl, trivial⟩⟩⟩⟩⟩⟩⟩⟩⟩⟩⟩⟩⟩⟩⟩⟩
    · exact V.fg (D_add F X1 hAR0 hkd hgv hy hc hs (by omega) kk) ⟨rfl, ⟨rfl, ⟨rfl, ⟨rfl, ⟨rfl, ⟨rfl, ⟨rfl, ⟨rfl, ⟨rfl, ⟨rfl, ⟨rfl, ⟨rfl, ⟨rfl, ⟨rfl, ⟨rfl, ⟨rfl, trivial⟩⟩⟩⟩⟩⟩⟩⟩⟩⟩⟩⟩⟩⟩⟩⟩
-- the law, from 1144
set_option maxRecDepth 100000 in
set_option maxHeartbeats 8000000 in
theorem D_end {pX : Program} {l : Launch} {eX : Env} {sS : State} {mX : MethodId} {args : Array Value} {below : List Frame} {meth : Method} {cX : Code} {Q : State → Prop} {g : gT} {AX : Nat → Prop} (F : Fx pX l sS mX args meth cX cL_law 24 ret RL g AX) {x a2 a3 a4 a5 b : Nat} {h0 : fH} {σ : sT} {k0 : fH} (X0 : SL g x h0 σ k0) (hAR : AR g k0 a2 a3 a4 a5 σ) {tn t sz pw wt cd : Int} (hkd : cKD sz pw wt cd) (hgv : σ 18 0 < 1000) {cells slots : Nat} (hc : cells + 2560 ≤ 674477) (hs : slots + 15500 ≤ 7078194)  (kk : ∀ (h2 : fH) (σ2 : sT), SL g x h2 σ2 k0 → AR g k0 a2 a3 a4 a5 σ2 → 0 ≤ σ2 18 0 → σ2 18 0 ≤ σ 18 0 + 1 → V pX l eX room_1 sS mX args below meth cX Q 24 g AX h2 (cells + 2560) (slots + 15500) 112 [some (.ref b), some (.ref x), some (.ref a2), some (.ref a3), some (.ref a4), some (.ref a5), some (.int (iI (σ2 18 0))), some (.int (iI (1))), some (.int (iI (tn))), some (.int (iI (t + 1))), none, none, none, none, none, none, none, none, none, none, none, none, none, none] []) : V pX l eX room_1 sS mX args below meth cX Q 24 g AX (h0) (cells) (slots) 1144 [some (.ref b), some (.ref x), some (.ref a2), some (.ref a3), some (.ref a4), some (.ref a5), some (.int (iI (σ 18 0))), some (.int (iI (1))), some (.int (iI (tn))), some (.int (iI (t))), none, none, none, some (.int (iI (sz))), some (.int (iI (pw))), some (.int (iI (wt))), some (.int (iI (cd))), none, none, none, none, none, none, none] [] := by
  have hIV := X0.iv
  have hm := mb_nm hIV.1
  have hn := mb_nr hIV.1
  have h18 : (0 : Int) ≤ σ 18 0 := (hIV.1 18 0 (by decide) (by decide)).1
  have hAR0 := hAR
  obtain ⟨⟨d23, d24, d25, d34, d35, d45⟩, SF, LF, WF, MF, q2, q3, q4, q5, hS, hM⟩ := hAR
  obtain ⟨fs0, o0⟩ := X0.obj
  have hpi0 := pl_iff hIV.1 hkd
  have hpr := prA_rf (n := sz) (p := pw) (w := wt) (c := cd) hIV
  have hpi : pl_c σ sz pw wt cd = 0 ↔ (σ 17 0 < 60 ∧ RF σ sz pw wt cd ≠ 0) := by rw [hpi0, hpr]
  have hrfr := rf_rng (n := sz) (p := pw) (w := wt) (c := cd) hIV
  refine v_iconst F (pc := 1144) dL_law_1144 ?_
  refine v_istore F (pc := 1145) (lo' := [some (.ref b), some (.ref x), some (.ref a2), some (.ref a3), some (.ref a4), some (.ref a5), some (.int (iI (σ 18 0))), some (.int (iI (1))), some (.int (iI (tn))), some (.int (iI (t))), none, none, none, some (.int (iI (sz))), some (.int (iI (pw))), some (.int (iI (wt))), some (.int (iI (cd))), none, none, none, some (.int (iI (0))), none, none, none]) dL_law_1145 (Nat.le_of_ble_eq_true rfl) rfl ?_
  have LP1147 : ∀ (N_ : Nat) (hq : fH) (w9 : Int) (cl : Nat) (sl : Nat), (SL g x hq σ k0) → (0 ≤ w9 ∧ w9 ≤ 4) → (cl + 10 * N_ ≤ cells + 52) → (sl + 60 * N_ ≤ slots + 312) → (4 - w9).toNat < N_ → V pX l eX room_1 sS mX args below meth cX Q 24 g AX (hq) (cl) (sl) 1147 [some (.ref b), some (.ref x), some (.ref a2), some (.ref a3), some (.ref a4), some (.ref a5), some (.int (iI (σ 18 0))), some (.int (iI (1))), some (.int (iI (tn))), some (.int (iI (t))), none, none, none, some (.int (iI (sz))), some (.int (iI (pw))), some (.int (iI (wt))), some (.int (iI (cd))), none, none, none, some (.int (iI (w9))), none, none, none] [] := by
    intro N_
    induction N_ with
    | zero => intro hq w9 cl sl _ _ _ _ hm_; exact absurd hm_ (Nat.not_lt_zero _)
    | succ N_ ih =>
      intro hq w9 cl sl Xq hw9 hcl hsl hm_
      obtain ⟨fsq, oq⟩ := Xq.obj
      have hrwr := m_rowWeighs_rng hIV.1 w9
      refine v_iload F (pc := 1147) dL_law_1147 rfl ?_
      refine v_iconst F (pc := 1149) dL_law_1149 ?_
      refine v_icmp_ge F (pc := 1150) (a := w9) (b := 4) 1227 dL_law_1150 (by decide) (by omega) (by omega) (fun c_1 => ?_) (fun c_1 => ?_)
      · refine v_aload_n F (pc := 1227) dL_law_1227 rfl ?_
        refine v_callV F (pc := 1228) (As := []) (rest := []) ci_L_41 ct_X4_machines cs_X4_machines (N_machines l g Xq) dL_law_1228 (k0 := 7) rfl rfl oq rfl rfl (Nat.le_of_ble_eq_true rfl) (Nat.le_of_ble_eq_true rfl) (Nat.le_of_ble_eq_true rfl) (show cl + 0 ≤ 674477 by omega) (show sl + 0 ≤ 7078194 by omega) (fun v_ h1 hp_ => ?_) (fun _ _ z => z.elim)
        obtain ⟨rfl, X1⟩ := hp_
        obtain ⟨fs1, o1⟩ := X1.obj
        refine v_istore F (pc := 1231) (lo' := [some (.ref b), some (.ref x), some (.ref a2), some (.ref a3), some (.ref a4), some (.ref a5), some (.int (iI (σ 18 0))), some (.int (iI (1))), some (.int (iI (tn))), some (.int (iI (t))), none, none, none, some (.int (iI (sz))), some (.int (iI (pw))), some (.int (iI (wt))), some (.int (iI (cd))), none, none, none, some (.int (iI (σ 17 0))), none, none, none]) dL_law_1231 (Nat.le_of_ble_eq_true rfl) rfl ?_
        refine v_iload F (pc := 1233) dL_law_1233 rfl ?_
        refine v_if_eq F (pc := 1235) (a := 1) 1273 dL_law_1235 (by decide) (by omega) (fun c_2 => ?_) (fun c_2 => ?_)
        · exact absurd c_2 (by decide)
        · refine v_aload_n F (pc := 1238) dL_law_1238 rfl ?_
          refine v_aload_n F (pc := 1239) dL_law_1239 rfl ?_
          refine v_callS F (pc := 1240) (As := [.ref x, .ref a2]) (rest := []) ci_L_90 ct_L_isWalked (KL_isWalked l g X1 q2 (fun r z1 z2 => (hS r z1 z2).1)) dL_law_1240 rfl rfl (Nat.le_of_ble_eq_true rfl) (Nat.le_of_ble_eq_true rfl) (Nat.le_of_ble_eq_true rfl) (show cl + 1620 ≤ 674477 by omega) (show sl + 9720 ≤ 7078194 by omega) (fun v_ h2 hp_ => ?_) (fun _ _ z => z.elim)
          obtain ⟨rfl, X2⟩ := hp_
          obtain ⟨fs2, o2⟩ := X2.obj
          refine v_if_eq F (pc := 1243) (a := 1) 1273 dL_law_1243 (by decide) (by omega) (fun c_3 => ?_) (fun c_3 => ?_)
          · exact absurd c_3 (by decide)
          · refine v_aload_n F (pc := 1246) dL_law_1246 rfl ?_
            refine v_aload_n F (pc := 1247) dL_law_1247 rfl ?_
            refine v_callS F (pc := 1248) (As := [.ref x, .ref a3]) (rest := []) ci_L_94 ct_L_isFed (KL_isFed l g X2 q3 (fun r z1 z2 => (hS r z1 z2).2.1)) dL_law_1248 rfl rfl (Nat.le_of_ble_eq_true rfl) (Nat.le_of_ble_eq_true rfl) (Nat.le_of_ble_eq_true rfl) (show cl + 1620 + 830 ≤ 674477 by omega) (show sl + 9720 + 4980 ≤ 7078194 by omega) (fun v_ h3 hp_ => ?_) (fun _ _ z => z.elim)
            obtain ⟨rfl, X3⟩ := hp_
            obtain ⟨fs3, o3⟩ := X3.obj
            refine v_if_eq F (pc := 1251) (a := 1) 1273 dL_law_1251 (by decide) (by omega) (fun c_4 => ?_) (fun c_4 => ?_)
            · exact absurd c_4 (by decide)
            · refine v_aload_n F (pc := 1254) dL_law_1254 rfl ?_
              refine v_iload F (pc := 1255) dL_law_1255 rfl ?_
              refine v_iload F (pc := 1257) dL_law_1257 rfl ?_
              refine v_iload F (pc := 1259) dL_law_1259 rfl ?_
              refine v_iload F (pc := 1261) dL_law_1261 rfl ?_
              refine v_callS F (pc := 1263) (As := [.ref x, .int (iI (sz)), .int (iI (pw)), .int (iI (wt)), .int (iI (cd))]) (rest := []) ci_L_122 ct_L_isTold (KL_isTold l g X3 sz pw wt cd hkd (by omega)) dL_law_1263 rfl rfl (Nat.le_of_ble_eq_true rfl) (Nat.le_of_ble_eq_true rfl) (Nat.le_of_ble_eq_true rfl) (show cl + 1620 + 830 + 50 ≤ 674477 by omega) (show sl + 9720 + 4980 + 400 ≤ 7078194 by omega) (fun v_ h4 hp_ => ?_) (fun _ _ z => z.elim)
              obtain ⟨rfl, σ2, X4, hA8, h18b⟩ := hp_
              obtain ⟨fs4, o4⟩ := X4.obj
              have hrf2 := hA8.rf hIV.1 sz pw wt cd
              have hAR2 := hAR0.to (σ' := σ2) (fun f z z1 z2 => hA8.1 f z z1 (by omega))
              refine v_if_eq F (pc := 1266) (a := 1) 1273 dL_law_1266 (by decide) (by omega) (fun c_5 => ?_) (fun c_5 => ?_)
              · exact absurd c_5 (by decide)
              · refine v_iconst F (pc := 1269) dL_law_1269 ?_
                refine v_goto F (pc := 1270) 1274 dL_law_1270 (by decide) ?_
                refine v_istore F (pc := 1274) (lo' := [some (.ref b), some (.ref x), some (.ref a2), some (.ref a3), some (.ref a4), some (.ref a5), some (.int (iI (σ 18 0))), some (.int (iI (1))), some (.int (iI (tn))), some (.int (iI (t))), none, none, none, some (.int (iI (sz))), some (.int (iI (pw))), some (.int (iI (wt))), some (.int (iI (cd))), none, none, none, some (.int (iI (σ 17 0))), none, none, none]) dL_law_1274 (Nat.le_of_ble_eq_true rfl) rfl ?_
                refine v_iload F (pc := 1276) dL_law_1276 rfl ?_
                refine v_iload F (pc := 1278) dL_law_1278 rfl ?_
                refine v_if_eq F (pc := 1280) (a := 1) 1309 dL_law_1280 (by decide) (by omega) (fun c_6 => ?_) (fun c_6 => ?_)
                · exact absurd c_6 (by decide)
                · refine v_iload F (pc := 1283) dL_law_1283 rfl ?_
                  refine v_bipush F (pc := 1285) dL_law_1285 (by decide) ?_
                  refine v_icmp_ge F (pc := 1287) (a := σ 17 0) (b := 60) 1309 dL_law_1287 (by decide) (by omega) (by omega) (fun c_7 => ?_) (fun c_7 => ?_)
                  · refine v_iconst F (pc := 1309) dL_law_1309 ?_
                    refine v_iadd F (pc := 1310) (a := σ 18 0) (b := 0) dL_law_1310 ?_
                    refine v_istore F (pc := 1311) (lo' := [some (.ref b), some (.ref x), some (.ref a2), some (.ref a3), some (.ref a4), some (.ref a5), some (.int (iI ((σ 18 0) + 0))), some (.int (iI (1))), some (.int (iI (tn))), some (.int (iI (t))), none, none, none, some (.int (iI (sz))), some (.int (iI (pw))), some (.int (iI (wt))), some (.int (iI (cd))), none, none, none, some (.int (iI (σ 17 0))), none, none, none]) dL_law_1311 (Nat.le_of_ble_eq_true rfl) rfl ?_
                    refine v_iinc F (pc := 1313) (lo' := [some (.ref b), some (.ref x), some (.ref a2), some (.ref a3), some (.ref a4), some (.ref a5), some (.int (iI ((σ 18 0) + 0))), some (.int (iI (1))), some (.int (iI (tn))), some (.int (iI (t + 1))), none, none, none, some (.int (iI (sz))), some (.int (iI (pw))), some (.int (iI (wt))), some (.int (iI (cd))), none, none, none, some (.int (iI (σ 17 0))), none, none, none]) dL_law_1313 rfl (Nat.le_of_ble_eq_true rfl) rfl ?_
                    refine v_goto F (pc := 1316) 112 dL_law_1316 (by decide) ?_
                    rw [show (σ 18 0) + 0 = σ2 18 0 from by rw [h18b, if_neg (fun z => by have := hpi.mp z; omega)]; omega]
                    exact v_wid (show cl + 1620 + 830 + 50 ≤ cells + 2560 by omega) (show sl + 9720 + 4980 + 400 ≤ slots + 15500 by omega) (V.fg (kk h4 σ2 X4 hAR2 (by rw [h18b]; split <;> omega) (by rw [h18b]; split <;> omega)) ⟨rfl, ⟨rfl, ⟨rfl, ⟨rfl, ⟨rfl, ⟨rfl, ⟨rfl, ⟨rfl, ⟨rfl, ⟨rfl, trivial⟩⟩⟩⟩⟩⟩⟩⟩⟩⟩)
                  · refine v_aload_n F (pc := 1290) dL_law_1290 rfl ?_
                    refine v_iload F (pc := 1291) dL_law_1291 rfl ?_
                    refine v_iload F (pc := 1293) dL_law_1293 rfl ?_
                    refine v_iload F (pc := 1295) dL_law_1295 rfl ?_
                    refine v_iload F (pc := 1297) dL_law_1297 rfl ?_
                    refine v_callV F (pc := 1299) (As := [.int (iI (sz)), .int (iI (pw)), .int (iI (wt)), .int (iI (cd))]) (rest := [.int (iI (σ 18 0))]) ci_L_67 ct_X4_racksFor cs_X4_racksFor (N_racksFor l g X4 sz pw wt cd hkd) dL_law_1299 (k0 := 7) rfl rfl o4 rfl rfl (Nat.le_of_ble_eq_true rfl) (Nat.le_of_ble_eq_true rfl) (Nat.le_of_ble_eq_true rfl) (show cl + 1620 + 830 + 50 + 5 ≤ 674477 by omega) (show sl + 9720 + 4980 + 400 + 31 ≤ 7078194 by omega) (fun v_ h5 hp_ => ?_) (fun _ _ z => z.elim)
                    obtain ⟨rfl, X5⟩ := hp_
                    obtain ⟨fs5, o5⟩ := X5.obj
                    refine v_if_eq F (pc := 1302) (a := RF σ2 sz pw wt cd) 1309 dL_law_1302 (by decide) (by omega) (fun c_8 => ?_) (fun c_8 => ?_)
                    · refine v_iconst F (pc := 1309) dL_law_1309 ?_
                      refine v_iadd F (pc := 1310) (a := σ 18 0) (b := 0) dL_law_1310 ?_
                      refine v_istore F (pc := 1311) (lo' := [some (.ref b), some (.ref x), some (.ref a2), some (.ref a3), some (.ref a4), some (.ref a5), some (.int (iI ((σ 18 0) + 0))), some (.int (iI (1))), some (.int (iI (tn))), some (.int (iI (t))), none, none, none, some (.int (iI (sz))), some (.int (iI (pw))), some (.int (iI (wt))), some (.int (iI (cd))), none, none, none, some (.int (iI (σ 17 0))), none, none, none]) dL_law_1311 (Nat.le_of_ble_eq_true rfl) rfl ?_
                      refine v_iinc F (pc := 1313) (lo' := [some (.ref b), some (.ref x), some (.ref a2), some (.ref a3), some (.ref a4), some (.ref a5), some (.int (iI ((σ 18 0) + 0))), some (.int (iI (1))), some (.int (iI (tn))), some (.int (iI (t + 1))), none, none, none, some (.int (iI (sz))), some (.int (iI (pw))), some (.int (iI (wt))), some (.int (iI (cd))), none, none, none, some (.int (iI (σ 17 0))), none, none, none]) dL_law_1313 rfl (Nat.le_of_ble_eq_true rfl) rfl ?_
                      refine v_goto F (pc := 1316) 112 dL_law_1316 (by decide) ?_
                      rw [show (σ 18 0) + 0 = σ2 18 0 from by rw [h18b, if_neg (fun z => by have := hpi.mp z; omega)]; omega]
                      exact v_wid (show cl + 1620 + 830 + 50 + 5 ≤ cells + 2560 by omega) (show sl + 9720 + 4980 + 400 + 31 ≤ slots + 15500 by omega) (V.fg (kk h5 σ2 X5 hAR2 (by rw [h18b]; split <;> omega) (by rw [h18b]; split <;> omega)) ⟨rfl, ⟨rfl, ⟨rfl, ⟨rfl, ⟨rfl, ⟨rfl, ⟨rfl, ⟨rfl, ⟨rfl, ⟨rfl, trivial⟩⟩⟩⟩⟩⟩⟩⟩⟩⟩)
                    · refine v_iconst F (pc := 1305) dL_law_1305 ?_
                      refine v_goto F (pc := 1306) 1310 dL_law_1306 (by decide) ?_
                      refine v_iadd F (pc := 1310) (a := σ 18 0) (b := 1) dL_law_1310 ?_
                      refine v_istore F (pc := 1311) (lo' := [some (.ref b), some (.ref x), some (.ref a2), some (.ref a3), some (.ref a4), some (.ref a5), some (.int (iI ((σ 18 0) + 1))), some (.int (iI (1))), some (.int (iI (tn))), some (.int (iI (t))), none, none, none, some (.int (iI (sz))), some (.int (iI (pw))), some (.int (iI (wt))), some (.int (iI (cd))), none, none, none, some (.int (iI (σ 17 0))), none, none, none]) dL_law_1311 (Nat.le_of_ble_eq_true rfl) rfl ?_
                      refine v_iinc F (pc := 1313) (lo' := [some (.ref b), some (.ref x), some (.ref a2), some (.ref a3), some (.ref a4), some (.ref a5), some (.int (iI ((σ 18 0) + 1))), some (.int (iI (1))), some (.int (iI (tn))), some (.int (iI (t + 1))), none, none, none, some (.int (iI (sz))), some (.int (iI (pw))), some (.int (iI (wt))), some (.int (iI (cd))), none, none, none, some (.int (iI (σ 17 0))), none, none, none]) dL_law_1313 rfl (Nat.le_of_ble_eq_true rfl) rfl ?_
                      refine v_goto F (pc := 1316) 112 dL_law_1316 (by decide) ?_
                      rw [show (σ 18 0) + 1 = σ2 18 0 from by rw [h18b, if_pos (hpi.mpr (by omega))]]
                      exact v_wid (show cl + 1620 + 830 + 50 + 5 ≤ cells + 2560 by omega) (show sl + 9720 + 4980 + 400 + 31 ≤ slots + 15500 by omega) (V.fg (kk h5 σ2 X5 hAR2 (by rw [h18b]; split <;> omega) (by rw [h18b]; split <;> omega)) ⟨rfl, ⟨rfl, ⟨rfl, ⟨rfl, ⟨rfl, ⟨rfl, ⟨rfl, ⟨rfl, ⟨rfl, ⟨rfl, trivial⟩⟩⟩⟩⟩⟩⟩⟩⟩⟩)
      · refine v_iload F (pc := 1153) dL_law_1153 rfl ?_
        refine v_if_eq F (pc := 1155) (a := 1) 1227 dL_law_1155 (by decide) (by omega) (fun c_9 => ?_) (fun c_9 => ?_)
        · exact absurd c_9 (by decide)
        · refine v_iconst F (pc := 1158) dL_law_1158 ?_
          refine v_istore F (pc := 1159) (lo' := [some (.ref b), some (.ref x), some (.ref a2), some (.ref a3), some (.ref a4), some (.ref a5), some (.int (iI (σ 18 0))), some (.int (iI (1))), some (.int (iI (tn))), some (.int (iI (t))), none, none, none, some (.int (iI (sz))), some (.int (iI (pw))), some (.int (iI (wt))), some (.int (iI (cd))), none, none, none, some (.int (iI (w9))), some (.int (iI (0))), none, none]) dL_law_1159 (Nat.le_of_ble_eq_true rfl) rfl ?_
          refine v_iconst F (pc := 1161) dL_law_1161 ?_
          refine v_istore F (pc := 1162) (lo' := [some (.ref b), some (.ref x), some (.ref a2), some (.ref a3), some (.ref a4), some (.ref a5), some (.int (iI (σ 18 0))), some (.int (iI (1))), some (.int (iI (tn))), some (.int (iI (t))), none, none, none, some (.int (iI (sz))), some (.int (iI (pw))), some (.int (iI (wt))), some (.int (iI (cd))), none, none, none, some (.int (iI (w9))), some (.int (iI (0))), some (.int (iI (0))), none]) dL_law_1162 (Nat.le_of_ble_eq_true rfl) rfl ?_
          have LP1164 : ∀ (N2_ : Nat) (hq2 : fH) (r : Int) (cl2 : Nat) (sl2 : Nat), (SL g x hq2 σ k0) → (0 ≤ r ∧ r ≤ σ 5 0) → (cl2 + 1 * N2_ ≤ cl + 9) → (sl2 + 6 * N2_ ≤ sl + 54) → (σ 5 0 - r).toNat < N2_ → V pX l eX room_1 sS mX args below meth cX Q 24 g AX (hq2) (cl2) (sl2) 1164 [some (.ref b), some (.ref x), some (.ref a2), some (.ref a3), some (.ref a4), some (.ref a5), some (.int (iI (σ 18 0))), some (.int (iI (1))), some (.int (iI (tn))), some (.int (iI (t))), none, none, none, some (.int (iI (sz))), some (.int (iI (pw))), some (.int (iI (wt))), some (.int (iI (cd))), none, none, none, some (.int (iI (w9))), some (.int (iI (sm (m_rw σ w9) r))), some (.int (iI (r))), none] [] := by
            intro N2_
            induction N2_ with
            | zero => intro hq2 r cl2 sl2 _ _ _ _ hm_; exact absurd hm_ (Nat.not_lt_zero _)
            | succ N2_ ih2 =>
              intro hq2 r cl2 sl2 Xq2 hr hcl2 hsl2 hm2_
              obtain ⟨fsq2, oq2⟩ := Xq2.obj
              have h1r := fun (z : r < σ 5 0) => (show (0 : Int) ≤ σ 1 r ∧ σ 1 r ≤ 3 from hIV.1 1 r hr.1 (show r < (8 : Int) by omega))
              have hml := hIV.2.2.2.2.2.2.1 w9 hw9.1 (by omega)
              have h7 : (0 : Int) ≤ σ 7 w9 ∧ σ 7 w9 ≤ 10000 := hIV.1 7 w9 hw9.1 (show w9 < (4 : Int) by omega)
              refine v_iload F (pc := 1164) dL_law_1164 rfl ?_
              refine v_aload_n F (pc := 1166) dL_law_1166 rfl ?_
              refine v_callV F (pc := 1167) (As := []) (rest := [.int (iI (r))]) ci_L_45 ct_X4_racks cs_X4_racks (N_racks l g Xq2) dL_law_1167 (k0 := 7) rfl rfl oq2 rfl rfl (Nat.le_of_ble_eq_true rfl) (Nat.le_of_ble_eq_true rfl) (Nat.le_of_ble_eq_true rfl) (show cl2 + 0 ≤ 674477 by omega) (show sl2 + 0 ≤ 7078194 by omega) (fun v_ h6 hp_ => ?_) (fun _ _ z => z.elim)
              obtain ⟨rfl, X6⟩ := hp_
              obtain ⟨fs6, o6⟩ := X6.obj
              refine v_icmp_ge F (pc := 1170) (a := r) (b := σ 5 0) 1204 dL_law_1170 (by decide) (by omega) (by omega) (fun c_10 => ?_) (fun c_10 => ?_)
              · rw [show sm (m_rw σ w9) r = m_rowWeighs σ w9 from by rw [show r = σ 5 0 by omega]; rfl]
                refine v_iload F (pc := 1204) dL_law_1204 rfl ?_
                refine v_aload F (pc := 1206) dL_law_1206 rfl ?_
                refine v_iload F (pc := 1208) dL_law_1208 rfl ?_
                refine v_iald F (pc := 1210) (n := 4) (f := MF) (z := w9) dL_law_1210 (X6.cel q5) (by omega) (by decide) ?_
                rw [(hM w9 hw9.1 (by omega)).1]
                refine v_icmp_gt F (pc := 1211) (a := m_rowWeighs σ w9) (b := σ 7 w9) 1218 dL_law_1211 (by decide) (by omega) (by omega) (fun c_11 => ?_) (fun c_11 => ?_)
                · exfalso; omega
                · refine v_iconst F (pc := 1214) dL_law_1214 ?_
                  refine v_goto F (pc := 1215) 1219 dL_law_1215 (by decide) ?_
                  refine v_istore F (pc := 1219) (lo' := [some (.ref b), some (.ref x), some (.ref a2), some (.ref a3), some (.ref a4), some (.ref a5), some (.int (iI (σ 18 0))), some (.int (iI (1))), some (.int (iI (tn))), some (.int (iI (t))), none, none, none, some (.int (iI (sz))), some (.int (iI (pw))), some (.int (iI (wt))), some (.int (iI (cd))), none, none, none, some (.int (iI (w9))), some (.int (iI (m_rowWeighs σ w9))), some (.int (iI (r))), none]) dL_law_1219 (Nat.le_of_ble_eq_true rfl) rfl ?_
                  refine v_iinc F (pc := 1221) (lo' := [some (.ref b), some (.ref x), some (.ref a2), some (.ref a3), some (.ref a4), some (.ref a5), some (.int (iI (σ 18 0))), some (.int (iI (1))), some (.int (iI (tn))), some (.int (iI (t))), none, none, none, some (.int (iI (sz))), some (.int (iI (pw))), some (.int (iI (wt))), some (.int (iI (cd))), none, none, none, some (.int (iI (w9 + 1))), some (.int (iI (m_rowWeighs σ w9))), some (.int (iI (r))), none]) dL_law_1221 rfl (Nat.le_of_ble_eq_true rfl) rfl ?_
                  refine v_goto F (pc := 1224) 1147 dL_law_1224 (by decide) ?_
                  exact V.fg (ih h6 (w9 + 1) (cl2) (sl2) X6 (by omega) (by omega) (by omega) (by omega)) ⟨rfl, ⟨rfl, ⟨rfl, ⟨rfl, ⟨rfl, ⟨rfl, ⟨rfl, ⟨rfl, ⟨rfl, ⟨rfl, ⟨rfl, ⟨rfl, ⟨rfl, ⟨rfl, ⟨rfl, trivial⟩⟩⟩⟩⟩⟩⟩⟩⟩⟩⟩⟩⟩⟩⟩
              · refine v_iload F (pc := 1173) dL_law_1173 rfl ?_
                refine v_aload F (pc := 1175) dL_law_1175 rfl ?_
                refine v_iload F (pc := 1177) dL_law_1177 rfl ?_
                refine v_iald F (pc := 1179) (n := 8) (f := WF) (z := r) dL_law_1179 (X6.cel q4) (by omega) (by decide) ?_
                rw [(hS r hr.1 (by omega)).2.2]
                refine v_iload F (pc := 1180) dL_law_1180 rfl ?_
                refine v_icmp_ne F (pc := 1182) (a := σ 1 r) (b := w9) 1194 dL_law_1182 (by decide) (by omega) (by omega) (fun c_12 => ?_) (fun c_12 => ?_)
                · refine v_iconst F (pc := 1194) dL_law_1194 ?_
                  refine v_iadd F (pc := 1195) (a := sm (m_rw σ w9) r) (b := 0) dL_law_1195 ?_
                  refine v_istore F (pc := 1196) (lo' := [some (.ref b), some (.ref x), some (.ref a2), some (.ref a3), some (.ref a4), some (.ref a5), some (.int (iI (σ 18 0))), some (.int (iI (1))), some (.int (iI (tn))), some (.int (iI (t))), none, none, none, some (.int (iI (sz))), some (.int (iI (pw))), some (.int (iI (wt))), some (.int (iI (cd))), none, none, none, some (.int (iI (w9))), some (.int (iI ((sm (m_rw σ w9) r) + 0))), some (.int (iI (r))), none]) dL_law_1196 (Nat.le_of_ble_eq_true rfl) rfl ?_
                  refine v_iinc F (pc := 1198) (lo' := [some (.ref b), some (.ref x), some (.ref a2), some (.ref a3), some (.ref a4), some (.ref a5), some (.int (iI (σ 18 0))), some (.int (iI (1))), some (.int (iI (tn))), some (.int (iI (t))), none, none, none, some (.int (iI (sz))), some (.int (iI (pw))), some (.int (iI (wt))), some (.int (iI (cd))), none, none, none, some (.int (iI (w9))), some (.int (iI ((sm (m_rw σ w9) r) + 0))), some (.int (iI (r + 1))), none]) dL_law_1198 rfl (Nat.le_of_ble_eq_true rfl) rfl ?_
                  refine v_goto F (pc := 1201) 1164 dL_law_1201 (by decide) ?_
                  have k := ih2 h6 (r + 1) (cl2) (sl2) X6 (by omega) (by omega) (by omega) (by omega)
                  rw [sm_s _ hr.1, show m_rw σ w9 r = 0 from if_neg (by omega)] at k
                  exact V.fg (k) ⟨rfl, ⟨rfl, ⟨rfl, ⟨rfl, ⟨rfl, ⟨rfl, ⟨rfl, ⟨rfl, ⟨rfl, ⟨rfl, ⟨rfl, ⟨rfl, ⟨rfl, ⟨rfl, ⟨rfl, ⟨rfl, ⟨rfl, trivial⟩⟩⟩⟩⟩⟩⟩⟩⟩⟩⟩⟩⟩⟩⟩⟩⟩
                · have hwr := m_weighs_rng hIV.1 r
                  refine v_aload_n F (pc := 1185) dL_law_1185 rfl ?_
                  refine v_iload F (pc := 1186) dL_law_1186 rfl ?_
                  refine v_callV F (pc := 1188) (As := [.int (iI (r))]) (rest := [.int (iI (sm (m_rw σ w9) r))]) ci_L_109 ct_X4_weightOf cs_X4_weightOf (N_weightOf l g X6 r (by omega)) dL_law_1188 (k0 := 7) rfl rfl o6 rfl rfl (Nat.le_of_ble_eq_true rfl) (Nat.le_of_ble_eq_true rfl) (Nat.le_of_ble_eq_true rfl) (show cl2 + 1 ≤ 674477 by omega) (show sl2 + 6 ≤ 7078194 by omega) (fun v_ h7 hp_ => ?_) (fun _ _ z => z.elim)
                  obtain ⟨rfl, X7⟩ := hp_
                  obtain ⟨fs7, o7⟩ := X7.obj
                  refine v_goto F (pc := 1191) 1195 dL_law_1191 (by decide) ?_
                  refine v_iadd F (pc := 1195) (a := sm (m_rw σ w9) r) (b := m_weighs σ r) dL_law_1195 ?_
                  refine v_istore F (pc := 1196) (lo' := [some (.ref b), some (.ref x), some (.ref a2), some (.ref a3), some (.ref a4), some (.ref a5), some (.int (iI (σ 18 0))), some (.int (iI (1))), some (.int (iI (tn))), some (.int (iI (t))), none, none, none, some (.int (iI (sz))), some (.int (iI (pw))), some (.int (iI (wt))), some (.int (iI (cd))), none, none, none, some (.int (iI (w9))), some (.int (iI ((sm (m_rw σ w9) r) + (m_weighs σ r)))), some (.int (iI (r))), none]) dL_law_1196 (Nat.le_of_ble_eq_true rfl) rfl ?_
                  refine v_iinc F (pc := 1198) (lo' := [some (.ref b), some (.ref x), some (.ref a2), some (.ref a3), some (.ref a4), some (.ref a5), some (.int (iI (σ 18 0))), some (.int (iI (1))), some (.int (iI (tn))), some (.int (iI (t))), none, none, none, some (.int (iI (sz))), some (.int (iI (pw))), some (.int (iI (wt))), some (.int (iI (cd))), none, none, none, some (.int (iI (w9))), some (.int (iI ((sm (m_rw σ w9) r) + (m_weighs σ r)))), some (.int (iI (r + 1))), none]) dL_law_1198 rfl (Nat.le_of_ble_eq_true rfl) rfl ?_
                  refine v_goto F (pc := 1201) 1164 dL_law_1201 (by decide) ?_
                  have k := ih2 h7 (r + 1) (cl2 + 1) (sl2 + 6) X7 (by omega) (by omega) (by omega) (by omega)
                  rw [sm_s _ hr.1, show m_rw σ w9 r = m_weighs σ r from if_pos (by omega)] at k
                  exact V.fg (k) ⟨rfl, ⟨rfl, ⟨rfl, ⟨rfl, ⟨rfl, ⟨rfl, ⟨rfl, ⟨rfl, ⟨rfl, ⟨rfl, ⟨rfl, ⟨rfl, ⟨rfl, ⟨rfl, ⟨rfl, ⟨rfl, ⟨rfl, trivial⟩⟩⟩⟩⟩⟩⟩⟩⟩⟩⟩⟩⟩⟩⟩⟩⟩
          exact V.fg (LP1164 9 hq 0 (cl) (sl) Xq (by omega) (by omega) (by omega) (by omega)) ⟨rfl, ⟨rfl, ⟨rfl, ⟨rfl, ⟨rfl, ⟨rfl, ⟨rfl, ⟨rfl, ⟨rfl, ⟨rfl, ⟨rfl, ⟨rfl, ⟨rfl, ⟨rfl, ⟨rfl, ⟨rfl, ⟨rfl, trivial⟩⟩⟩⟩⟩⟩⟩⟩⟩⟩⟩⟩⟩⟩⟩⟩⟩
  exact V.fg (LP1147 5 h0 0 (cells) (slots) X0 (by omega) (by omega) (by omega) (by omega)) ⟨rfl, ⟨rfl, ⟨rfl, ⟨rfl, ⟨rfl, ⟨rfl, ⟨rfl, ⟨rfl, ⟨rfl, ⟨rfl, ⟨rfl, ⟨rfl, ⟨rfl, ⟨rfl, ⟨rfl, trivial⟩⟩⟩⟩⟩⟩⟩⟩⟩⟩⟩⟩⟩⟩⟩
