/-! ===== the law: setFeed, setRow, switchFeed, pack ===== -/
-- the law, from 773
set_option maxRecDepth 100000 in
set_option maxHeartbeats 8000000 in
theorem D_feed {pX : Program} {l : Launch} {eX : Env} {sS : State} {mX : MethodId} {args : Array Value} {below : List Frame} {meth : Method} {cX : Code} {Q : State → Prop} {g : gT} {AX : Nat → Prop} (F : Fx pX l sS mX args meth cX cL_law 24 ret RL g AX) {x a2 a3 a4 a5 b : Nat} {h0 : fH} {σ : sT} {k0 : fH} (X0 : SL g x h0 σ k0) (hAR : AR g k0 a2 a3 a4 a5 σ) {tn t y sz pw wt cd : Int} (hkd : cKD sz pw wt cd) (hgv : σ 18 0 < 1000) (hy : -2147483648 ≤ y ∧ y ≤ 2147483647) {cells slots : Nat} (hc : cells + 130 ≤ 674477) (hs : slots + 18100 ≤ 7078194)  (kk : ∀ (h2 : fH) (σ2 : sT) (k2 : fH), SL g x h2 σ2 k2 → AR g k2 a2 a3 a4 a5 σ2 → 0 ≤ σ2 18 0 → σ2 18 0 ≤ σ 18 0 + 1 → V pX l eX room_1 sS mX args below meth cX Q 24 g AX h2 (cells + 130) (slots + 18100) 1144 [some (.ref b), some (.ref x), some (.ref a2), some (.ref a3), some (.ref a4), some (.ref a5), some (.int (iI (σ2 18 0))), some (.int (iI (1))), some (.int (iI (tn))), some (.int (iI (t))), none, none, none, some (.int (iI (sz))), some (.int (iI (pw))), some (.int (iI (wt))), some (.int (iI (cd))), none, none, none, none, none, none, none] []) : V pX l eX room_1 sS mX args below meth cX Q 24 g AX (h0) (cells) (slots) 773 [some (.ref b), some (.ref x), some (.ref a2), some (.ref a3), some (.ref a4), some (.ref a5), some (.int (iI (σ 18 0))), some (.int (iI (1))), some (.int (iI (tn))), some (.int (iI (t))), none, some (.int (iI (y))), none, some (.int (iI (sz))), some (.int (iI (pw))), some (.int (iI (wt))), some (.int (iI (cd))), none, none, some (.int (iI (σ 17 0))), none, none, none, none] [] := by
  have hIV := X0.iv
  have hm := mb_nm hIV.1
  have hn := mb_nr hIV.1
  have h18 : (0 : Int) ≤ σ 18 0 := (hIV.1 18 0 (by decide) (by decide)).1
  have hAR0 := hAR
  obtain ⟨⟨d23, d24, d25, d34, d35, d45⟩, SF, LF, WF, MF, q2, q3, q4, q5, hS, hM⟩ := hAR
  obtain ⟨fs0, o0⟩ := X0.obj
  have m1 := maI_rng y (m := 1) (by decide)
  have m2 := maI_rng (shI y 1) (m := 63) (by decide)
  have w0 := m_worst_rng hIV.1 (-1) (maI y 1)
  have m8 : (0 : Int) ≤ σ 8 (maI y 1) ∧ σ 8 (maI y 1) ≤ 20000 := hIV.1 8 (maI y 1) m1.1 (show maI y 1 < (2 : Int) by omega)
  refine v_iconst F (pc := 773) dL_law_773 ?_
  refine v_istore F (pc := 774) (lo' := [some (.ref b), some (.ref x), some (.ref a2), some (.ref a3), some (.ref a4), some (.ref a5), some (.int (iI (σ 18 0))), some (.int (iI (1))), some (.int (iI (tn))), some (.int (iI (t))), none, some (.int (iI (y))), none, some (.int (iI (sz))), some (.int (iI (pw))), some (.int (iI (wt))), some (.int (iI (cd))), none, none, some (.int (iI (σ 17 0))), some (.int (iI (0))), none, none, none]) dL_law_774 (Nat.le_of_ble_eq_true rfl) rfl ?_
  refine v_iconst F (pc := 776) dL_law_776 ?_
  refine v_istore F (pc := 777) (lo' := [some (.ref b), some (.ref x), some (.ref a2), some (.ref a3), some (.ref a4), some (.ref a5), some (.int (iI (σ 18 0))), some (.int (iI (1))), some (.int (iI (tn))), some (.int (iI (t))), none, some (.int (iI (y))), none, some (.int (iI (sz))), some (.int (iI (pw))), some (.int (iI (wt))), some (.int (iI (cd))), none, none, some (.int (iI (σ 17 0))), some (.int (iI (0))), some (.int (iI (0))), none, none]) dL_law_777 (Nat.le_of_ble_eq_true rfl) rfl ?_
  have LP779 : ∀ (N_ : Nat) (hq : fH) (r : Int) (cl : Nat) (sl : Nat), (SL g x hq σ k0) → (0 ≤ r ∧ r ≤ σ 5 0) → (cl + 2 * N_ ≤ cells + 20) → (sl + 12 * N_ ≤ slots + 120) → (σ 5 0 - r).toNat < N_ → V pX l eX room_1 sS mX args below meth cX Q 24 g AX (hq) (cl) (sl) 779 [some (.ref b), some (.ref x), some (.ref a2), some (.ref a3), some (.ref a4), some (.ref a5), some (.int (iI (σ 18 0))), some (.int (iI (1))), some (.int (iI (tn))), some (.int (iI (t))), none, some (.int (iI (y))), none, some (.int (iI (sz))), some (.int (iI (pw))), some (.int (iI (wt))), some (.int (iI (cd))), none, none, some (.int (iI (σ 17 0))), some (.int (iI (sm (fun r => m_worst σ r (maI y 1)) r))), some (.int (iI (r))), none, none] [] := by
    intro N_
    induction N_ with
    | zero => intro hq r cl sl _ _ _ _ hm_; exact absurd hm_ (Nat.not_lt_zero _)
    | succ N_ ih =>
      intro hq r cl sl Xq hr hcl hsl hm_
      obtain ⟨fsq, oq⟩ := Xq.obj
      refine v_iload F (pc := 779) dL_law_779 rfl ?_
      refine v_aload_n F (pc := 781) dL_law_781 rfl ?_
      refine v_callV F (pc := 782) (As := []) (rest := [.int (iI (r))]) ci_L_45 ct_X4_racks cs_X4_racks (N_racks l g Xq) dL_law_782 (k0 := 7) rfl rfl oq rfl rfl (Nat.le_of_ble_eq_true rfl) (Nat.le_of_ble_eq_true rfl) (Nat.le_of_ble_eq_true rfl) (show cl + 0 ≤ 674477 by omega) (show sl + 0 ≤ 7078194 by omega) (fun v_ h1 hp_ => ?_) (fun _ _ z => z.elim)
      obtain ⟨rfl, X1⟩ := hp_
      obtain ⟨fs1, o1⟩ := X1.obj
      refine v_icmp_ge F (pc := 785) (a := r) (b := σ 5 0) 809 dL_law_785 (by decide) (by omega) (by omega) (fun c_1 => ?_) (fun c_1 => ?_)
      · rw [show sm (fun r => m_worst σ r (maI y 1)) r = m_worst σ (-1) (maI y 1) from by rw [show r = σ 5 0 by omega]; exact sum_worst hIV.1 hIV.2.1.rv (maI y 1)]
        refine v_aload_n F (pc := 809) dL_law_809 rfl ?_
        refine v_iload F (pc := 810) dL_law_810 rfl ?_
        refine v_iconst F (pc := 812) dL_law_812 ?_
        refine v_iandM F (pc := 813) (a := y) (b := 1) dL_law_813 ?_
        refine v_iload F (pc := 814) dL_law_814 rfl ?_
        refine v_iconst F (pc := 816) dL_law_816 ?_
        refine v_ishrM F (pc := 817) (a := y) (b := 1) dL_law_817 ?_
        refine v_bipush F (pc := 818) dL_law_818 (by decide) ?_
        refine v_iandM F (pc := 820) (a := shI y 1) (b := 63) dL_law_820 ?_
        refine v_sipush F (pc := 821) dL_law_821 (by decide) ?_
        refine v_imul F (pc := 824) (a := maI (shI y 1) 63) (b := 200) dL_law_824 ?_
        by_cases hov : (maI (shI y 1) 63 * 200) < m_worst σ (-1) (maI y 1)
        · 
          refine v_callW F (pc := 825) (n := 3) (As := [.ref x, .int (iI (maI y 1)), .int (iI ((maI (shI y 1) 63) * 200))]) (rest := []) lm_feeds lx_L lc_feeds ⟨by decide, by decide, by decide +kernel⟩ ls_feeds (KF_no l g X1 (maI y 1) (maI (shI y 1) 63 * 200) (by omega) (by omega) hov) dL_law_825 rfl rfl (Nat.le_of_ble_eq_true rfl) (Nat.le_of_ble_eq_true rfl) (Nat.le_of_ble_eq_true rfl) (show cl + 3 ≤ 674477 by omega) (show sl + 18 ≤ 7078194 by omega) (fun v_ h2 hp_ => ?_)
          obtain ⟨rfl, X2⟩ := hp_
          obtain ⟨fs2, o2⟩ := X2.obj
          refine v_istore F (pc := 828) (lo' := [some (.ref b), some (.ref x), some (.ref a2), some (.ref a3), some (.ref a4), some (.ref a5), some (.int (iI (σ 18 0))), some (.int (iI (1))), some (.int (iI (tn))), some (.int (iI (t))), none, some (.int (iI (y))), none, some (.int (iI (sz))), some (.int (iI (pw))), some (.int (iI (wt))), some (.int (iI (cd))), none, none, some (.int (iI (σ 17 0))), some (.int (iI (m_worst σ (-1) (maI y 1)))), some (.int (iI (-3))), none, none]) dL_law_828 (Nat.le_of_ble_eq_true rfl) rfl ?_
          refine v_iload F (pc := 830) dL_law_830 rfl ?_
          refine v_bipush F (pc := 832) dL_law_832 (by decide) ?_
          refine v_icmp_ne F (pc := 834) (a := -3) (b := -3) 841 dL_law_834 (by decide) (by omega) (by omega) (fun c_2 => ?_) (fun c_2 => ?_)
          · exact absurd c_2 (by decide)
          · refine v_iconst F (pc := 837) dL_law_837 ?_
            refine v_goto F (pc := 838) 842 dL_law_838 (by decide) ?_
            refine v_iload F (pc := 842) dL_law_842 rfl ?_
            refine v_iload F (pc := 844) dL_law_844 rfl ?_
            refine v_iconst F (pc := 846) dL_law_846 ?_
            refine v_ishrM F (pc := 847) (a := y) (b := 1) dL_law_847 ?_
            refine v_bipush F (pc := 848) dL_law_848 (by decide) ?_
            refine v_iandM F (pc := 850) (a := shI y 1) (b := 63) dL_law_850 ?_
            refine v_sipush F (pc := 851) dL_law_851 (by decide) ?_
            refine v_imul F (pc := 854) (a := maI (shI y 1) 63) (b := 200) dL_law_854 ?_
            refine v_icmp_le F (pc := 855) (a := m_worst σ (-1) (maI y 1)) (b := (maI (shI y 1) 63) * 200) 862 dL_law_855 (by decide) (by omega) (by omega) (fun c_3 => ?_) (fun c_3 => ?_)
            · exfalso; omega
            · refine v_iconst F (pc := 858) dL_law_858 ?_
              refine v_goto F (pc := 859) 863 dL_law_859 (by decide) ?_
              refine v_icmp_ne F (pc := 863) (a := 1) (b := 1) 870 dL_law_863 (by decide) (by omega) (by omega) (fun c_4 => ?_) (fun c_4 => ?_)
              · exact absurd c_4 (by decide)
              · refine v_iconst F (pc := 866) dL_law_866 ?_
                refine v_goto F (pc := 867) 871 dL_law_867 (by decide) ?_
                refine v_istore F (pc := 871) (lo' := [some (.ref b), some (.ref x), some (.ref a2), some (.ref a3), some (.ref a4), some (.ref a5), some (.int (iI (σ 18 0))), some (.int (iI (1))), some (.int (iI (tn))), some (.int (iI (t))), none, some (.int (iI (y))), none, some (.int (iI (sz))), some (.int (iI (pw))), some (.int (iI (wt))), some (.int (iI (cd))), none, none, some (.int (iI (σ 17 0))), some (.int (iI (m_worst σ (-1) (maI y 1)))), some (.int (iI (-3))), none, none]) dL_law_871 (Nat.le_of_ble_eq_true rfl) rfl ?_
                refine v_goto F (pc := 873) 1144 dL_law_873 (by decide) ?_
                exact v_wid (show cl + 3 ≤ cells + 130 by omega) (show sl + 18 ≤ slots + 18100 by omega) (V.fg (kk h2 σ k0 X2 hAR0 (by omega) (by omega)) ⟨rfl, ⟨rfl, ⟨rfl, ⟨rfl, ⟨rfl, ⟨rfl, ⟨rfl, ⟨rfl, ⟨rfl, ⟨rfl, ⟨rfl, ⟨rfl, ⟨rfl, ⟨rfl, trivial⟩⟩⟩⟩⟩⟩⟩⟩⟩⟩⟩⟩⟩⟩)
        · 
          refine v_callW F (pc := 825) (n := 3) (As := [.ref x, .int (iI (maI y 1)), .int (iI ((maI (shI y 1) 63) * 200))]) (rest := []) lm_feeds lx_L lc_feeds ⟨by decide, by decide, by decide +kernel⟩ ls_feeds (KF_yes l g X1 (maI y 1) (maI (shI y 1) 63 * 200) (by omega) (by omega) hov) dL_law_825 rfl rfl (Nat.le_of_ble_eq_true rfl) (Nat.le_of_ble_eq_true rfl) (Nat.le_of_ble_eq_true rfl) (show cl + 3 ≤ 674477 by omega) (show sl + 18 ≤ 7078194 by omega) (fun v_ h3 hp_ => ?_)
          obtain ⟨rfl, X3⟩ := hp_
          obtain ⟨fs3, o3⟩ := X3.obj
          refine v_istore F (pc := 828) (lo' := [some (.ref b), some (.ref x), some (.ref a2), some (.ref a3), some (.ref a4), some (.ref a5), some (.int (iI (σ 18 0))), some (.int (iI (1))), some (.int (iI (tn))), some (.int (iI (t))), none, some (.int (iI (y))), none, some (.int (iI (sz))), some (.int (iI (pw))), some (.int (iI (wt))), some (.int (iI (cd))), none, none, some (.int (iI (σ 17 0))), some (.int (iI (m_worst σ (-1) (maI y 1)))), some (.int (iI (σ 8 (maI y 1)))), none, none]) dL_law_828 (Nat.le_of_ble_eq_true rfl) rfl ?_
          refine v_iload F (pc := 830) dL_law_830 rfl ?_
          refine v_bipush F (pc := 832) dL_law_832 (by decide) ?_
          refine v_icmp_ne F (pc := 834) (a := σ 8 (maI y 1)) (b := -3) 841 dL_law_834 (by decide) (by omega) (by omega) (fun c_5 => ?_) (fun c_5 => ?_)
          · refine v_iconst F (pc := 841) dL_law_841 ?_
            refine v_iload F (pc := 842) dL_law_842 rfl ?_
            refine v_iload F (pc := 844) dL_law_844 rfl ?_
            refine v_iconst F (pc := 846) dL_law_846 ?_
            refine v_ishrM F (pc := 847) (a := y) (b := 1) dL_law_847 ?_
            refine v_bipush F (pc := 848) dL_law_848 (by decide) ?_
            refine v_iandM F (pc := 850) (a := shI y 1) (b := 63) dL_law_850 ?_
            refine v_sipush F (pc := 851) dL_law_851 (by decide) ?_
            refine v_imul F (pc := 854) (a := maI (shI y 1) 63) (b := 200) dL_law_854 ?_
            refine v_icmp_le F (pc := 855) (a := m_worst σ (-1) (maI y 1)) (b := (maI (shI y 1) 63) * 200) 862 dL_law_855 (by decide) (by omega) (by omega) (fun c_6 => ?_) (fun c_6 => ?_)
            · refine v_iconst F (pc := 862) dL_law_862 ?_
              refine v_icmp_ne F (pc := 863) (a := 0) (b := 0) 870 dL_law_863 (by decide) (by omega) (by omega) (fun c_7 => ?_) (fun c_7 => ?_)
              · exact absurd c_7 (by decide)
              · refine v_iconst F (pc := 866) dL_law_866 ?_
                refine v_goto F (pc := 867) 871 dL_law_867 (by decide) ?_
                refine v_istore F (pc := 871) (lo' := [some (.ref b), some (.ref x), some (.ref a2), some (.ref a3), some (.ref a4), some (.ref a5), some (.int (iI (σ 18 0))), some (.int (iI (1))), some (.int (iI (tn))), some (.int (iI (t))), none, some (.int (iI (y))), none, some (.int (iI (sz))), some (.int (iI (pw))), some (.int (iI (wt))), some (.int (iI (cd))), none, none, some (.int (iI (σ 17 0))), some (.int (iI (m_worst σ (-1) (maI y 1)))), some (.int (iI (σ 8 (maI y 1)))), none, none]) dL_law_871 (Nat.le_of_ble_eq_true rfl) rfl ?_
                refine v_goto F (pc := 873) 1144 dL_law_873 (by decide) ?_
                have e18 : su σ 8 (maI y 1) (maI (shI y 1) 63 * 200) 18 0 = σ 18 0 := rfl
                exact v_wid (show cl + 3 ≤ cells + 130 by omega) (show sl + 18 ≤ slots + 18100 by omega) (V.fg (kk h3 (su σ 8 (maI y 1) (maI (shI y 1) 63 * 200)) k0 X3 (hAR0.to (fun f z z1 z2 => by rw [su_n (by omega)])) (by omega) (by omega)) ⟨rfl, ⟨rfl, ⟨rfl, ⟨rfl, ⟨rfl, ⟨rfl, ⟨rfl, ⟨rfl, ⟨rfl, ⟨rfl, ⟨rfl, ⟨rfl, ⟨rfl, ⟨rfl, trivial⟩⟩⟩⟩⟩⟩⟩⟩⟩⟩⟩⟩⟩⟩)
            · exfalso; omega
          · exfalso; omega
      · refine v_iload F (pc := 788) dL_law_788 rfl ?_
        refine v_aload_n F (pc := 790) dL_law_790 rfl ?_
        refine v_iload F (pc := 791) dL_law_791 rfl ?_
        refine v_iload F (pc := 793) dL_law_793 rfl ?_
        refine v_iconst F (pc := 795) dL_law_795 ?_
        refine v_iandM F (pc := 796) (a := y) (b := 1) dL_law_796 ?_
        refine v_callV F (pc := 797) (As := [.int (iI (r)), .int (iI (maI y 1))]) (rest := [.int (iI (sm (fun r => m_worst σ r (maI y 1)) r))]) ci_L_51 ct_X4_worstOf cs_X4_worstOf (N_worstOf l g X1 r (maI y 1) (by omega) (by omega)) dL_law_797 (k0 := 7) rfl rfl o1 rfl rfl (Nat.le_of_ble_eq_true rfl) (Nat.le_of_ble_eq_true rfl) (Nat.le_of_ble_eq_true rfl) (show cl + 2 ≤ 674477 by omega) (show sl + 12 ≤ 7078194 by omega) (fun v_ h4 hp_ => ?_) (fun _ _ z => z.elim)
        obtain ⟨rfl, X4⟩ := hp_
        obtain ⟨fs4, o4⟩ := X4.obj
        refine v_iadd F (pc := 800) (a := sm (fun r => m_worst σ r (maI y 1)) r) (b := m_worst σ r (maI y 1)) dL_law_800 ?_
        refine v_istore F (pc := 801) (lo' := [some (.ref b), some (.ref x), some (.ref a2), some (.ref a3), some (.ref a4), some (.ref a5), some (.int (iI (σ 18 0))), some (.int (iI (1))), some (.int (iI (tn))), some (.int (iI (t))), none, some (.int (iI (y))), none, some (.int (iI (sz))), some (.int (iI (pw))), some (.int (iI (wt))), some (.int (iI (cd))), none, none, some (.int (iI (σ 17 0))), some (.int (iI ((sm (fun r => m_worst σ r (maI y 1)) r) + (m_worst σ r (maI y 1))))), some (.int (iI (r))), none, none]) dL_law_801 (Nat.le_of_ble_eq_true rfl) rfl ?_
        refine v_iinc F (pc := 803) (lo' := [some (.ref b), some (.ref x), some (.ref a2), some (.ref a3), some (.ref a4), some (.ref a5), some (.int (iI (σ 18 0))), some (.int (iI (1))), some (.int (iI (tn))), some (.int (iI (t))), none, some (.int (iI (y))), none, some (.int (iI (sz))), some (.int (iI (pw))), some (.int (iI (wt))), some (.int (iI (cd))), none, none, some (.int (iI (σ 17 0))), some (.int (iI ((sm (fun r => m_worst σ r (maI y 1)) r) + (m_worst σ r (maI y 1))))), some (.int (iI (r + 1))), none, none]) dL_law_803 rfl (Nat.le_of_ble_eq_true rfl) rfl ?_
        refine v_goto F (pc := 806) 779 dL_law_806 (by decide) ?_
        have k := ih h4 (r + 1) (cl + 2) (sl + 12) X4 (by omega) (by omega) (by omega) (by omega)
        rw [sm_s _ hr.1] at k
        exact V.fg (k) ⟨rfl, ⟨rfl, ⟨rfl, ⟨rfl, ⟨rfl, ⟨rfl, ⟨rfl, ⟨rfl, ⟨rfl, ⟨rfl, ⟨rfl, ⟨rfl, ⟨rfl, ⟨rfl, ⟨rfl, ⟨rfl, ⟨rfl, ⟨rfl, trivial⟩⟩⟩⟩⟩⟩⟩⟩⟩⟩⟩⟩⟩⟩⟩⟩⟩⟩
  exact V.fg (LP779 9 h0 0 (cells) (slots) X0 (by omega) (by omega) (by omega) (by omega)) ⟨rfl, ⟨rfl, ⟨rfl, ⟨rfl, ⟨rfl, ⟨rfl, ⟨rfl, ⟨rfl, ⟨rfl, ⟨rfl, ⟨rfl, ⟨rfl, ⟨rfl, ⟨rfl, ⟨rfl, ⟨rfl, ⟨rfl, ⟨rfl, trivial⟩⟩⟩⟩⟩⟩⟩⟩⟩⟩⟩⟩⟩⟩⟩⟩⟩⟩
-- the law, from 883
set_option maxRecDepth 100000 in
set_option maxHeartbeats 8000000 in
theorem D_row {pX : Program} {l : Launch} {eX : Env} {sS : State} {mX : MethodId} {args : Array Value} {below : List Frame} {meth : Method} {cX : Code} {Q : State → Prop} {g : gT} {AX : Nat → Prop} (F : Fx pX l sS mX args meth cX cL_law 24 ret RL g AX) {x a2 a3 a4 a5 b : Nat} {h0 : fH} {σ : sT} {k0 : fH} (X0 : SL g x h0 σ k0) (hAR : AR g k0 a2 a3 a4 a5 σ) {tn t y sz pw wt cd : Int} (hkd : cKD sz pw wt cd) (hgv : σ 18 0 < 1000) (hy : -2147483648 ≤ y ∧ y ≤ 2147483647) {cells slots : Nat} (hc : cells + 130 ≤ 674477) (hs : slots + 18100 ≤ 7078194)  (kk : ∀ (h2 : fH) (σ2 : sT) (k2 : fH), SL g x h2 σ2 k2 → AR g k2 a2 a3 a4 a5 σ2 → 0 ≤ σ2 18 0 → σ2 18 0 ≤ σ 18 0 + 1 → V pX l eX room_1 sS mX args below meth cX Q 24 g AX h2 (cells + 130) (slots + 18100) 1144 [some (.ref b), some (.ref x), some (.ref a2), some (.ref a3), some (.ref a4), some (.ref a5), some (.int (iI (σ2 18 0))), some (.int (iI (1))), some (.int (iI (tn))), some (.int (iI (t))), none, none, none, some (.int (iI (sz))), some (.int (iI (pw))), some (.int (iI (wt))), some (.int (iI (cd))), none, none, none, none, none, none, none] []) : V pX l eX room_1 sS mX args below meth cX Q 24 g AX (h0) (cells) (slots) 883 [some (.ref b), some (.ref x), some (.ref a2), some (.ref a3), some (.ref a4), some (.ref a5), some (.int (iI (σ 18 0))), some (.int (iI (1))), some (.int (iI (tn))), some (.int (iI (t))), none, some (.int (iI (y))), none, some (.int (iI (sz))), some (.int (iI (pw))), some (.int (iI (wt))), some (.int (iI (cd))), none, none, some (.int (iI (σ 17 0))), none, none, none, none] [] := by
  have hIV := X0.iv
  have hm := mb_nm hIV.1
  have hn := mb_nr hIV.1
  have h18 : (0 : Int) ≤ σ 18 0 := (hIV.1 18 0 (by decide) (by decide)).1
  have hAR0 := hAR
  obtain ⟨⟨d23, d24, d25, d34, d35, d45⟩, SF, LF, WF, MF, q2, q3, q4, q5, hS, hM⟩ := hAR
  obtain ⟨fs0, o0⟩ := X0.obj
  have m1 := maI_rng y (m := 3) (by decide)
  have m2 := maI_rng (shI y 2) (m := 31) (by decide)
  have w0 := m_rowWeighs_rng hIV.1 (maI y 3)
  have hml := hIV.2.2.2.2.2.2.1 (maI y 3) m1.1 (by omega)
  have hM6 := (hM (maI y 3) m1.1 (by omega)).2
  refine v_iload F (pc := 883) dL_law_883 rfl ?_
  refine v_iconst F (pc := 885) dL_law_885 ?_
  refine v_iandM F (pc := 886) (a := y) (b := 3) dL_law_886 ?_
  refine v_istore F (pc := 887) (lo' := [some (.ref b), some (.ref x), some (.ref a2), some (.ref a3), some (.ref a4), some (.ref a5), some (.int (iI (σ 18 0))), some (.int (iI (1))), some (.int (iI (tn))), some (.int (iI (t))), none, some (.int (iI (y))), none, some (.int (iI (sz))), some (.int (iI (pw))), some (.int (iI (wt))), some (.int (iI (cd))), none, none, some (.int (iI (σ 17 0))), some (.int (iI (maI y 3))), none, none, none]) dL_law_887 (Nat.le_of_ble_eq_true rfl) rfl ?_
  refine v_iload F (pc := 889) dL_law_889 rfl ?_
  refine v_iconst F (pc := 891) dL_law_891 ?_
  refine v_ishrM F (pc := 892) (a := y) (b := 2) dL_law_892 ?_
  refine v_bipush F (pc := 893) dL_law_893 (by decide) ?_
  refine v_iandM F (pc := 895) (a := shI y 2) (b := 31) dL_law_895 ?_
  refine v_sipush F (pc := 896) dL_law_896 (by decide) ?_
  refine v_imul F (pc := 899) (a := maI (shI y 2) 31) (b := 200) dL_law_899 ?_
  refine v_istore F (pc := 900) (lo' := [some (.ref b), some (.ref x), some (.ref a2), some (.ref a3), some (.ref a4), some (.ref a5), some (.int (iI (σ 18 0))), some (.int (iI (1))), some (.int (iI (tn))), some (.int (iI (t))), none, some (.int (iI (y))), none, some (.int (iI (sz))), some (.int (iI (pw))), some (.int (iI (wt))), some (.int (iI (cd))), none, none, some (.int (iI (σ 17 0))), some (.int (iI (maI y 3))), some (.int (iI ((maI (shI y 2) 31) * 200))), none, none]) dL_law_900 (Nat.le_of_ble_eq_true rfl) rfl ?_
  refine v_iconst F (pc := 902) dL_law_902 ?_
  refine v_istore F (pc := 903) (lo' := [some (.ref b), some (.ref x), some (.ref a2), some (.ref a3), some (.ref a4), some (.ref a5), some (.int (iI (σ 18 0))), some (.int (iI (1))), some (.int (iI (tn))), some (.int (iI (t))), none, some (.int (iI (y))), none, some (.int (iI (sz))), some (.int (iI (pw))), some (.int (iI (wt))), some (.int (iI (cd))), none, none, some (.int (iI (σ 17 0))), some (.int (iI (maI y 3))), some (.int (iI ((maI (shI y 2) 31) * 200))), some (.int (iI (0))), none]) dL_law_903 (Nat.le_of_ble_eq_true rfl) rfl ?_
  refine v_iconst F (pc := 905) dL_law_905 ?_
  refine v_istore F (pc := 906) (lo' := [some (.ref b), some (.ref x), some (.ref a2), some (.ref a3), some (.ref a4), some (.ref a5), some (.int (iI (σ 18 0))), some (.int (iI (1))), some (.int (iI (tn))), some (.int (iI (t))), none, some (.int (iI (y))), none, some (.int (iI (sz))), some (.int (iI (pw))), some (.int (iI (wt))), some (.int (iI (cd))), none, none, some (.int (iI (σ 17 0))), some (.int (iI (maI y 3))), some (.int (iI ((maI (shI y 2) 31) * 200))), some (.int (iI (0))), some (.int (iI (0)))]) dL_law_906 (Nat.le_of_ble_eq_true rfl) rfl ?_
  have LP908 : ∀ (N_ : Nat) (hq : fH) (r : Int) (cl : Nat) (sl : Nat), (SL g x hq σ k0) → (0 ≤ r ∧ r ≤ σ 5 0) → (cl + 1 * N_ ≤ cells + 20) → (sl + 6 * N_ ≤ slots + 120) → (σ 5 0 - r).toNat < N_ → V pX l eX room_1 sS mX args below meth cX Q 24 g AX (hq) (cl) (sl) 908 [some (.ref b), some (.ref x), some (.ref a2), some (.ref a3), some (.ref a4), some (.ref a5), some (.int (iI (σ 18 0))), some (.int (iI (1))), some (.int (iI (tn))), some (.int (iI (t))), none, some (.int (iI (y))), none, some (.int (iI (sz))), some (.int (iI (pw))), some (.int (iI (wt))), some (.int (iI (cd))), none, none, some (.int (iI (σ 17 0))), some (.int (iI (maI y 3))), some (.int (iI (maI (shI y 2) 31 * 200))), some (.int (iI (sm (m_rw σ (maI y 3)) r))), some (.int (iI (r)))] [] := by
    intro N_
    induction N_ with
    | zero => intro hq r cl sl _ _ _ _ hm_; exact absurd hm_ (Nat.not_lt_zero _)
    | succ N_ ih =>
      intro hq r cl sl Xq hr hcl hsl hm_
      obtain ⟨fsq, oq⟩ := Xq.obj
      have h1r := fun (z : r < σ 5 0) => (show (0 : Int) ≤ σ 1 r ∧ σ 1 r ≤ 3 from hIV.1 1 r hr.1 (show r < (8 : Int) by omega))
      refine v_iload F (pc := 908) dL_law_908 rfl ?_
      refine v_aload_n F (pc := 910) dL_law_910 rfl ?_
      refine v_callV F (pc := 911) (As := []) (rest := [.int (iI (r))]) ci_L_45 ct_X4_racks cs_X4_racks (N_racks l g Xq) dL_law_911 (k0 := 7) rfl rfl oq rfl rfl (Nat.le_of_ble_eq_true rfl) (Nat.le_of_ble_eq_true rfl) (Nat.le_of_ble_eq_true rfl) (show cl + 0 ≤ 674477 by omega) (show sl + 0 ≤ 7078194 by omega) (fun v_ h1 hp_ => ?_) (fun _ _ z => z.elim)
      obtain ⟨rfl, X1⟩ := hp_
      obtain ⟨fs1, o1⟩ := X1.obj
      refine v_icmp_ge F (pc := 914) (a := r) (b := σ 5 0) 948 dL_law_914 (by decide) (by omega) (by omega) (fun c_1 => ?_) (fun c_1 => ?_)
      · rw [show sm (m_rw σ (maI y 3)) r = m_rowWeighs σ (maI y 3) from by rw [show r = σ 5 0 by omega]; rfl]
        refine v_aload_n F (pc := 948) dL_law_948 rfl ?_
        refine v_iload F (pc := 949) dL_law_949 rfl ?_
        refine v_sipush F (pc := 951) dL_law_951 (by decide) ?_
        refine v_iload F (pc := 954) dL_law_954 rfl ?_
        by_cases hov : (maI (shI y 2) 31 * 200) < m_rowWeighs σ (maI y 3)
        · 
          refine v_callW F (pc := 956) (n := 4) (As := [.ref x, .int (iI (maI y 3)), .int (iI (10000)), .int (iI (maI (shI y 2) 31 * 200))]) (rest := []) lm_rows lx_L lc_rows ⟨by decide, by decide, by decide +kernel⟩ ls_rows (KR_no l g X1 (maI y 3) 10000 (maI (shI y 2) 31 * 200) (by omega) (by decide) (by omega) hov) dL_law_956 rfl rfl (Nat.le_of_ble_eq_true rfl) (Nat.le_of_ble_eq_true rfl) (Nat.le_of_ble_eq_true rfl) (show cl + 4 ≤ 674477 by omega) (show sl + 24 ≤ 7078194 by omega) (fun v_ h2 hp_ => ?_)
          obtain ⟨rfl, X2⟩ := hp_
          obtain ⟨fs2, o2⟩ := X2.obj
          refine v_istore F (pc := 959) (lo' := [some (.ref b), some (.ref x), some (.ref a2), some (.ref a3), some (.ref a4), some (.ref a5), some (.int (iI (σ 18 0))), some (.int (iI (1))), some (.int (iI (tn))), some (.int (iI (t))), none, some (.int (iI (y))), none, some (.int (iI (sz))), some (.int (iI (pw))), some (.int (iI (wt))), some (.int (iI (cd))), none, none, some (.int (iI (σ 17 0))), some (.int (iI (maI y 3))), some (.int (iI (maI (shI y 2) 31 * 200))), some (.int (iI (m_rowWeighs σ (maI y 3)))), some (.int (iI (-3)))]) dL_law_959 (Nat.le_of_ble_eq_true rfl) rfl ?_
          refine v_iload F (pc := 961) dL_law_961 rfl ?_
          refine v_bipush F (pc := 963) dL_law_963 (by decide) ?_
          refine v_icmp_ne F (pc := 965) (a := -3) (b := -3) 972 dL_law_965 (by decide) (by omega) (by omega) (fun c_2 => ?_) (fun c_2 => ?_)
          · exact absurd c_2 (by decide)
          · refine v_iconst F (pc := 968) dL_law_968 ?_
            refine v_goto F (pc := 969) 973 dL_law_969 (by decide) ?_
            refine v_iload F (pc := 973) dL_law_973 rfl ?_
            refine v_iload F (pc := 975) dL_law_975 rfl ?_
            refine v_icmp_le F (pc := 977) (a := m_rowWeighs σ (maI y 3)) (b := maI (shI y 2) 31 * 200) 984 dL_law_977 (by decide) (by omega) (by omega) (fun c_3 => ?_) (fun c_3 => ?_)
            · exfalso; omega
            · refine v_iconst F (pc := 980) dL_law_980 ?_
              refine v_goto F (pc := 981) 985 dL_law_981 (by decide) ?_
              refine v_icmp_ne F (pc := 985) (a := 1) (b := 1) 992 dL_law_985 (by decide) (by omega) (by omega) (fun c_4 => ?_) (fun c_4 => ?_)
              · exact absurd c_4 (by decide)
              · refine v_iconst F (pc := 988) dL_law_988 ?_
                refine v_goto F (pc := 989) 993 dL_law_989 (by decide) ?_
                refine v_istore F (pc := 993) (lo' := [some (.ref b), some (.ref x), some (.ref a2), some (.ref a3), some (.ref a4), some (.ref a5), some (.int (iI (σ 18 0))), some (.int (iI (1))), some (.int (iI (tn))), some (.int (iI (t))), none, some (.int (iI (y))), none, some (.int (iI (sz))), some (.int (iI (pw))), some (.int (iI (wt))), some (.int (iI (cd))), none, none, some (.int (iI (σ 17 0))), some (.int (iI (maI y 3))), some (.int (iI (maI (shI y 2) 31 * 200))), some (.int (iI (m_rowWeighs σ (maI y 3)))), some (.int (iI (-3)))]) dL_law_993 (Nat.le_of_ble_eq_true rfl) rfl ?_
                refine v_aload F (pc := 995) dL_law_995 rfl ?_
                refine v_iload F (pc := 997) dL_law_997 rfl ?_
                refine v_iload F (pc := 999) dL_law_999 rfl ?_
                refine v_if_ne F (pc := 1001) (a := -3) 1009 dL_law_1001 (by decide) (by omega) (fun c_5 => ?_) (fun c_5 => ?_)
                · refine v_aload F (pc := 1009) dL_law_1009 rfl ?_
                  refine v_iload F (pc := 1011) dL_law_1011 rfl ?_
                  refine v_iald F (pc := 1013) (n := 4) (f := MF) (z := maI y 3) dL_law_1013 (X2.cel q5) (by omega) (by decide) ?_
                  refine v_iast F (pc := 1014) (n := 4) (f := MF) (z := maI y 3) (x := MF (maI y 3)) dL_law_1014 (X2.cel q5) (by omega) (by decide) (h' := (f_up h2 a5 (iar (g.2.1 0) 4 (iup MF (maI y 3) (MF (maI y 3)))))) rfl ?_
                  have X3 := X2.up (e' := (iar (g.2.1 0) 4 (iup MF (maI y 3) (MF (maI y 3))))) q5
                  obtain ⟨k3, ek3⟩ : ∃ kk_, kk_ = f_up k0 a5 (iar (g.2.1 0) 4 (iup MF (maI y 3) (MF (maI y 3)))) := ⟨_, rfl⟩
                  rw [← ek3] at X3
                  generalize f_up h2 a5 (iar (g.2.1 0) 4 (iup MF (maI y 3) (MF (maI y 3)))) = h3 at X3 ⊢
                  obtain ⟨fs3, o3⟩ := X3.obj
                  have z3_a2 : k3 a2 = some (iar (g.2.1 0) 8 SF) := by rw [ek3, f_up_n d25]; exact q2
                  have z3_a3 : k3 a3 = some (iar (g.2.1 0) 8 LF) := by rw [ek3, f_up_n d35]; exact q3
                  have z3_a4 : k3 a4 = some (iar (g.2.1 0) 8 WF) := by rw [ek3, f_up_n d45]; exact q4
                  have z3_a5 : k3 a5 = some (iar (g.2.1 0) 4 (iup MF (maI y 3) (MF (maI y 3)))) := by rw [ek3, f_up_s]
                  refine v_goto F (pc := 1015) 1144 dL_law_1015 (by decide) ?_
                  have hAR2 : AR g k3 a2 a3 a4 a5 σ := by
                    refine ⟨⟨d23, d24, d25, d34, d35, d45⟩, SF, LF, WF, MF, z3_a2, z3_a3, z3_a4, ?_, hS, hM⟩
                    rw [z3_a5, iup_id rfl]
                  exact v_wid (show cl + 4 ≤ cells + 130 by omega) (show sl + 24 ≤ slots + 18100 by omega) (V.fg (kk h3 σ k3 X3 hAR2 (by omega) (by omega)) ⟨rfl, ⟨rfl, ⟨rfl, ⟨rfl, ⟨rfl, ⟨rfl, ⟨rfl, ⟨rfl, ⟨rfl, ⟨rfl, ⟨rfl, ⟨rfl, ⟨rfl, ⟨rfl, trivial⟩⟩⟩⟩⟩⟩⟩⟩⟩⟩⟩⟩⟩⟩)
                · exact absurd c_5 (by decide)
        · 
          refine v_callW F (pc := 956) (n := 4) (As := [.ref x, .int (iI (maI y 3)), .int (iI (10000)), .int (iI (maI (shI y 2) 31 * 200))]) (rest := []) lm_rows lx_L lc_rows ⟨by decide, by decide, by decide +kernel⟩ ls_rows (KR_yes l g X1 (maI y 3) 10000 (maI (shI y 2) 31 * 200) (by omega) (by decide) (by omega) hov (by omega)) dL_law_956 rfl rfl (Nat.le_of_ble_eq_true rfl) (Nat.le_of_ble_eq_true rfl) (Nat.le_of_ble_eq_true rfl) (show cl + 4 ≤ 674477 by omega) (show sl + 24 ≤ 7078194 by omega) (fun v_ h4 hp_ => ?_)
          obtain ⟨rfl, X4⟩ := hp_
          obtain ⟨fs4, o4⟩ := X4.obj
          refine v_istore F (pc := 959) (lo' := [some (.ref b), some (.ref x), some (.ref a2), some (.ref a3), some (.ref a4), some (.ref a5), some (.int (iI (σ 18 0))), some (.int (iI (1))), some (.int (iI (tn))), some (.int (iI (t))), none, some (.int (iI (y))), none, some (.int (iI (sz))), some (.int (iI (pw))), some (.int (iI (wt))), some (.int (iI (cd))), none, none, some (.int (iI (σ 17 0))), some (.int (iI (maI y 3))), some (.int (iI (maI (shI y 2) 31 * 200))), some (.int (iI (m_rowWeighs σ (maI y 3)))), some (.int (iI (0)))]) dL_law_959 (Nat.le_of_ble_eq_true rfl) rfl ?_
          refine v_iload F (pc := 961) dL_law_961 rfl ?_
          refine v_bipush F (pc := 963) dL_law_963 (by decide) ?_
          refine v_icmp_ne F (pc := 965) (a := 0) (b := -3) 972 dL_law_965 (by decide) (by omega) (by omega) (fun c_6 => ?_) (fun c_6 => ?_)
          · refine v_iconst F (pc := 972) dL_law_972 ?_
            refine v_iload F (pc := 973) dL_law_973 rfl ?_
            refine v_iload F (pc := 975) dL_law_975 rfl ?_
            refine v_icmp_le F (pc := 977) (a := m_rowWeighs σ (maI y 3)) (b := maI (shI y 2) 31 * 200) 984 dL_law_977 (by decide) (by omega) (by omega) (fun c_7 => ?_) (fun c_7 => ?_)
            · refine v_iconst F (pc := 984) dL_law_984 ?_
              refine v_icmp_ne F (pc := 985) (a := 0) (b := 0) 992 dL_law_985 (by decide) (by omega) (by omega) (fun c_8 => ?_) (fun c_8 => ?_)
              · exact absurd c_8 (by decide)
              · refine v_iconst F (pc := 988) dL_law_988 ?_
                refine v_goto F (pc := 989) 993 dL_law_989 (by decide) ?_
                refine v_istore F (pc := 993) (lo' := [some (.ref b), some (.ref x), some (.ref a2), some (.ref a3), some (.ref a4), some (.ref a5), some (.int (iI (σ 18 0))), some (.int (iI (1))), some (.int (iI (tn))), some (.int (iI (t))), none, some (.int (iI (y))), none, some (.int (iI (sz))), some (.int (iI (pw))), some (.int (iI (wt))), some (.int (iI (cd))), none, none, some (.int (iI (σ 17 0))), some (.int (iI (maI y 3))), some (.int (iI (maI (shI y 2) 31 * 200))), some (.int (iI (m_rowWeighs σ (maI y 3)))), some (.int (iI (0)))]) dL_law_993 (Nat.le_of_ble_eq_true rfl) rfl ?_
                refine v_aload F (pc := 995) dL_law_995 rfl ?_
                refine v_iload F (pc := 997) dL_law_997 rfl ?_
                refine v_iload F (pc := 999) dL_law_999 rfl ?_
                refine v_if_ne F (pc := 1001) (a := 0) 1009 dL_law_1001 (by decide) (by omega) (fun c_9 => ?_) (fun c_9 => ?_)
                · exact absurd c_9 (by decide)
                · refine v_iload F (pc := 1004) dL_law_1004 rfl ?_
                  refine v_goto F (pc := 1006) 1014 dL_law_1006 (by decide) ?_
                  refine v_iast F (pc := 1014) (n := 4) (f := MF) (z := maI y 3) (x := maI (shI y 2) 31 * 200) dL_law_1014 (X4.cel q5) (by omega) (by decide) (h' := (f_up h4 a5 (iar (g.2.1 0) 4 (iup MF (maI y 3) (maI (shI y 2) 31 * 200))))) rfl ?_
                  have X5 := X4.up (e' := (iar (g.2.1 0) 4 (iup MF (maI y 3) (maI (shI y 2) 31 * 200)))) q5
                  obtain ⟨k5, ek5⟩ : ∃ kk_, kk_ = f_up k0 a5 (iar (g.2.1 0) 4 (iup MF (maI y 3) (maI (shI y 2) 31 * 200))) := ⟨_, rfl⟩
                  rw [← ek5] at X5
                  generalize f_up h4 a5 (iar (g.2.1 0) 4 (iup MF (maI y 3) (maI (shI y 2) 31 * 200))) = h5 at X5 ⊢
                  obtain ⟨fs5, o5⟩ := X5.obj
                  have z5_a2 : k5 a2 = some (iar (g.2.1 0) 8 SF) := by rw [ek5, f_up_n d25]; exact q2
                  have z5_a3 : k5 a3 = some (iar (g.2.1 0) 8 LF) := by rw [ek5, f_up_n d35]; exact q3
                  have z5_a4 : k5 a4 = some (iar (g.2.1 0) 8 WF) := by rw [ek5, f_up_n d45]; exact q4
                  have z5_a5 : k5 a5 = some (iar (g.2.1 0) 4 (iup MF (maI y 3) (maI (shI y 2) 31 * 200))) := by rw [ek5, f_up_s]
                  refine v_goto F (pc := 1015) 1144 dL_law_1015 (by decide) ?_
                  have hAR2 : AR g k5 a2 a3 a4 a5 (su (su σ 6 (maI y 3) 10000) 7 (maI y 3) (maI (shI y 2) 31 * 200)) := by
                    refine ⟨⟨d23, d24, d25, d34, d35, d45⟩, SF, LF, WF, _, z5_a2, z5_a3, z5_a4, z5_a5, hS, fun row z1 z2 => ?_⟩
                    show iup MF (maI y 3) (maI (shI y 2) 31 * 200) row = iup (σ 7) (maI y 3) (maI (shI y 2) 31 * 200) row ∧ iup (σ 6) (maI y 3) 10000 row = 10000
                    have z3 := hM row z1 z2
                    by_cases z : row = (maI y 3)
                    · rw [z, iup_s, iup_s, iup_s]; exact ⟨rfl, rfl⟩
                    · rw [iup_n z, iup_n z, iup_n z]; exact z3
                  have e18 : su (su σ 6 (maI y 3) 10000) 7 (maI y 3) (maI (shI y 2) 31 * 200) 18 0 = σ 18 0 := rfl
                  exact v_wid (show cl + 4 ≤ cells + 130 by omega) (show sl + 24 ≤ slots + 18100 by omega) (V.fg (kk h5 (su (su σ 6 (maI y 3) 10000) 7 (maI y 3) (maI (shI y 2) 31 * 200)) k5 X5 hAR2 (by omega) (by omega)) ⟨rfl, ⟨rfl, ⟨rfl, ⟨rfl, ⟨rfl, ⟨rfl, ⟨rfl, ⟨rfl, ⟨rfl, ⟨rfl, ⟨rfl, ⟨rfl, ⟨rfl, ⟨rfl, trivial⟩⟩⟩⟩⟩⟩⟩⟩⟩⟩⟩⟩⟩⟩)
            · exfalso; omega
          · exact absurd c_6 (by decide)
      · refine v_iload F (pc := 917) dL_law_917 rfl ?_
        refine v_aload F (pc := 919) dL_law_919 rfl ?_
        refine v_iload F (pc := 921) dL_law_921 rfl ?_
        refine v_iald F (pc := 923) (n := 8) (f := WF) (z := r) dL_law_923 (X1.cel q4) (by omega) (by decide) ?_
        rw [(hS r hr.1 (by omega)).2.2]
        refine v_iload F (pc := 924) dL_law_924 rfl ?_
        refine v_icmp_ne F (pc := 926) (a := σ 1 r) (b := maI y 3) 938 dL_law_926 (by decide) (by omega) (by omega) (fun c_10 => ?_) (fun c_10 => ?_)
        · refine v_iconst F (pc := 938) dL_law_938 ?_
          refine v_iadd F (pc := 939) (a := sm (m_rw σ (maI y 3)) r) (b := 0) dL_law_939 ?_
          refine v_istore F (pc := 940) (lo' := [some (.ref b), some (.ref x), some (.ref a2), some (.ref a3), some (.ref a4), some (.ref a5), some (.int (iI (σ 18 0))), some (.int (iI (1))), some (.int (iI (tn))), some (.int (iI (t))), none, some (.int (iI (y))), none, some (.int (iI (sz))), some (.int (iI (pw))), some (.int (iI (wt))), some (.int (iI (cd))), none, none, some (.int (iI (σ 17 0))), some (.int (iI (maI y 3))), some (.int (iI (maI (shI y 2) 31 * 200))), some (.int (iI ((sm (m_rw σ (maI y 3)) r) + 0))), some (.int (iI (r)))]) dL_law_940 (Nat.le_of_ble_eq_true rfl) rfl ?_
          refine v_iinc F (pc := 942) (lo' := [some (.ref b), some (.ref x), some (.ref a2), some (.ref a3), some (.ref a4), some (.ref a5), some (.int (iI (σ 18 0))), some (.int (iI (1))), some (.int (iI (tn))), some (.int (iI (t))), none, some (.int (iI (y))), none, some (.int (iI (sz))), some (.int (iI (pw))), some (.int (iI (wt))), some (.int (iI (cd))), none, none, some (.int (iI (σ 17 0))), some (.int (iI (maI y 3))), some (.int (iI (maI (shI y 2) 31 * 200))), some (.int (iI ((sm (m_rw σ (maI y 3)) r) + 0))), some (.int (iI (r + 1)))]) dL_law_942 rfl (Nat.le_of_ble_eq_true rfl) rfl ?_
          refine v_goto F (pc := 945) 908 dL_law_945 (by decide) ?_
          have k := ih h1 (r + 1) (cl) (sl) X1 (by omega) (by omega) (by omega) (by omega)
          rw [sm_s _ hr.1, show m_rw σ (maI y 3) r = 0 from if_neg (by omega)] at k
          exact V.fg (k) ⟨rfl, ⟨rfl, ⟨rfl, ⟨rfl, ⟨rfl, ⟨rfl, ⟨rfl, ⟨rfl, ⟨rfl, ⟨rfl, ⟨rfl, ⟨rfl, ⟨rfl, ⟨rfl, ⟨rfl, ⟨rfl, ⟨rfl, ⟨rfl, ⟨rfl, ⟨rfl, trivial⟩⟩⟩⟩⟩⟩⟩⟩⟩⟩⟩⟩⟩⟩⟩⟩⟩⟩⟩⟩
        · have hwr := m_weighs_rng hIV.1 r
          refine v_aload_n F (pc := 929) dL_law_929 rfl ?_
          refine v_iload F (pc := 930) dL_law_930 rfl ?_
          refine v_callV F (pc := 932) (As := [.int (iI (r))]) (rest := [.int (iI (sm (m_rw σ (maI y 3)) r))]) ci_L_109 ct_X4_weightOf cs_X4_weightOf (N_weightOf l g X1 r (by omega)) dL_law_932 (k0 := 7) rfl rfl o1 rfl rfl (Nat.le_of_ble_eq_true rfl) (Nat.le_of_ble_eq_true rfl) (Nat.le_of_ble_eq_true rfl) (show cl + 1 ≤ 674477 by omega) (show sl + 6 ≤ 7078194 by omega) (fun v_ h6 hp_ => ?_) (fun _ _ z => z.elim)
          obtain ⟨rfl, X6⟩ := hp_
          obtain ⟨fs6, o6⟩ := X6.obj
          refine v_goto F (pc := 935) 939 dL_law_935 (by decide) ?_
          refine v_iadd F (pc := 939) (a := sm (m_rw σ (maI y 3)) r) (b := m_weighs σ r) dL_law_939 ?_
          refine v_istore F (pc := 940) (lo' := [some (.ref b), some (.ref x), some (.ref a2), some (.ref a3), some (.ref a4), some (.ref a5), some (.int (iI (σ 18 0))), some (.int (iI (1))), some (.int (iI (tn))), some (.int (iI (t))), none, some (.int (iI (y))), none, some (.int (iI (sz))), some (.int (iI (pw))), some (.int (iI (wt))), some (.int (iI (cd))), none, none, some (.int (iI (σ 17 0))), some (.int (iI (maI y 3))), some (.int (iI (maI (shI y 2) 31 * 200))), some (.int (iI ((sm (m_rw σ (maI y 3)) r) + (m_weighs σ r)))), some (.int (iI (r)))]) dL_law_940 (Nat.le_of_ble_eq_true rfl) rfl ?_
          refine v_iinc F (pc := 942) (lo' := [some (.ref b), some (.ref x), some (.ref a2), some (.ref a3), some (.ref a4), some (.ref a5), some (.int (iI (σ 18 0))), some (.int (iI (1))), some (.int (iI (tn))), some (.int (iI (t))), none, some (.int (iI (y))), none, some (.int (iI (sz))), some (.int (iI (pw))), some (.int (iI (wt))), some (.int (iI (cd))), none, none, some (.int (iI (σ 17 0))), some (.int (iI (maI y 3))), some (.int (iI (maI (shI y 2) 31 * 200))), some (.int (iI ((sm (m_rw σ (maI y 3)) r) + (m_weighs σ r)))), some (.int (iI (r + 1)))]) dL_law_942 rfl (Nat.le_of_ble_eq_true rfl) rfl ?_
          refine v_goto F (pc := 945) 908 dL_law_945 (by decide) ?_
          have k := ih h6 (r + 1) (cl + 1) (sl + 6) X6 (by omega) (by omega) (by omega) (by omega)
          rw [sm_s _ hr.1, show m_rw σ (maI y 3) r = m_weighs σ r from if_pos (by omega)] at k
          exact V.fg (k) ⟨rfl, ⟨rfl, ⟨rfl, ⟨rfl, ⟨rfl, ⟨rfl, ⟨rfl, ⟨rfl, ⟨rfl, ⟨rfl, ⟨rfl, ⟨rfl, ⟨rfl, ⟨rfl, ⟨rfl, ⟨rfl, ⟨rfl, ⟨rfl, ⟨rfl, ⟨rfl, trivial⟩⟩⟩⟩⟩⟩⟩⟩⟩⟩⟩⟩⟩⟩⟩⟩⟩⟩⟩⟩
  exact V.fg (LP908 9 h0 0 (cells) (slots) X0 (by omega) (by omega) (by omega) (by omega)) ⟨rfl, ⟨rfl, ⟨rfl, ⟨rfl, ⟨rfl, ⟨rfl, ⟨rfl, ⟨rfl, ⟨rfl, ⟨rfl, ⟨rfl, ⟨rfl, ⟨rfl, ⟨rfl, ⟨rfl, ⟨rfl, ⟨rfl, ⟨rfl, ⟨rfl, ⟨rfl, trivial⟩⟩⟩⟩⟩⟩⟩⟩⟩⟩⟩⟩⟩⟩⟩⟩⟩⟩⟩⟩
-- the law, from 1025
set_option maxRecDepth 100000 in
set_option maxHeartbeats 8000000 in
theorem D_switch {pX : Program} {l : Launch} {eX : Env} {sS : State} {mX : MethodId} {args : Array Value} {below : List Frame} {meth : Method} {cX : Code} {Q : State → Prop} {g : gT} {AX : Nat → Prop} (F : Fx pX l sS mX args meth cX cL_law 24 ret RL g AX) {x a2 a3 a4 a5 b : Nat} {h0 : fH} {σ : sT} {k0 : fH} (X0 : SL g x h0 σ k0) (hAR : AR g k0 a2 a3 a4 a5 σ) {tn t y sz pw wt cd : Int} (hkd : cKD sz pw wt cd) (hgv : σ 18 0 < 1000) (hy : -2147483648 ≤ y ∧ y ≤ 2147483647) {cells slots : Nat} (hc : cells + 130 ≤ 674477) (hs : slots + 18100 ≤ 7078194)  (kk : ∀ (h2 : fH) (σ2 : sT) (k2 : fH), SL g x h2 σ2 k2 → AR g k2 a2 a3 a4 a5 σ2 → 0 ≤ σ2 18 0 → σ2 18 0 ≤ σ 18 0 + 1 → V pX l eX room_1 sS mX args below meth cX Q 24 g AX h2 (cells + 130) (slots + 18100) 1144 [some (.ref b), some (.ref x), some (.ref a2), some (.ref a3), some (.ref a4), some (.ref a5), some (.int (iI (σ2 18 0))), some (.int (iI (1))), some (.int (iI (tn))), some (.int (iI (t))), none, none, none, some (.int (iI (sz))), some (.int (iI (pw))), some (.int (iI (wt))), some (.int (iI (cd))), none, none, none, none, none, none, none] []) : V pX l eX room_1 sS mX args below meth cX Q 24 g AX (h0) (cells) (slots) 1025 [some (.ref b), some (.ref x), some (.ref a2), some (.ref a3), some (.ref a4), some (.ref a5), some (.int (iI (σ 18 0))), some (.int (iI (1))), some (.int (iI (tn))), some (.int (iI (t))), none, some (.int (iI (y))), none, some (.int (iI (sz))), some (.int (iI (pw))), some (.int (iI (wt))), some (.int (iI (cd))), none, none, some (.int (iI (σ 17 0))), none, none, none, none] [] := by
  have hIV := X0.iv
  have hm := mb_nm hIV.1
  have hn := mb_nr hIV.1
  have h18 : (0 : Int) ≤ σ 18 0 := (hIV.1 18 0 (by decide) (by decide)).1
  have hAR0 := hAR
  obtain ⟨⟨d23, d24, d25, d34, d35, d45⟩, SF, LF, WF, MF, q2, q3, q4, q5, hS, hM⟩ := hAR
  obtain ⟨fs0, o0⟩ := X0.obj
  have m1 := maI_rng y (m := 1) (by decide)
  refine v_aload_n F (pc := 1025) dL_law_1025 rfl ?_
  refine v_iload F (pc := 1026) dL_law_1026 rfl ?_
  refine v_iconst F (pc := 1028) dL_law_1028 ?_
  refine v_iandM F (pc := 1029) (a := y) (b := 1) dL_law_1029 ?_
  refine v_callV F (pc := 1030) (As := [.int (iI (maI y 1))]) (rest := []) ci_L_116 ct_X4_switchFeed cs_X4_switchFeed (N_switch2 l g X0 (maI y 1) (by omega)) dL_law_1030 (k0 := 7) rfl rfl o0 rfl rfl (Nat.le_of_ble_eq_true rfl) (Nat.le_of_ble_eq_true rfl) (Nat.le_of_ble_eq_true rfl) (show cells + 1 ≤ 674477 by omega) (show slots + 6 ≤ 7078194 by omega) (fun v_ h1 hp_ => ?_) (fun _ _ z => z.elim)
  obtain ⟨rfl, X1⟩ := hp_
  obtain ⟨fs1, o1⟩ := X1.obj
  obtain ⟨σ1, e1⟩ : ∃ z, su σ 9 (maI y 1) (1 - σ 9 (maI y 1)) = z := ⟨_, rfl⟩
  rw [e1] at X1 ⊢
  have hIV1 := X1.iv
  have hn1 := mb_nr hIV1.1
  have e17 : σ1 17 0 = σ 17 0 := by rw [← e1]; rfl
  have e18 : σ1 18 0 = σ 18 0 := by rw [← e1]; rfl
  have hAR2 := hAR0.to (σ' := σ1) (fun f z z1 z2 => by rw [← e1, su_n (by omega)])
  refine v_istore F (pc := 1033) (lo' := [some (.ref b), some (.ref x), some (.ref a2), some (.ref a3), some (.ref a4), some (.ref a5), some (.int (iI (σ 18 0))), some (.int (iI (1))), some (.int (iI (tn))), some (.int (iI (t))), none, some (.int (iI (y))), none, some (.int (iI (sz))), some (.int (iI (pw))), some (.int (iI (wt))), some (.int (iI (cd))), none, none, some (.int (iI (σ 17 0))), some (.int (iI (sm (dk σ1) (σ 17 0)))), none, none, none]) dL_law_1033 (Nat.le_of_ble_eq_true rfl) rfl ?_
  refine v_aload_n F (pc := 1035) dL_law_1035 rfl ?_
  refine v_iconst F (pc := 1036) dL_law_1036 ?_
  refine v_callV F (pc := 1037) (As := [.int (iI (-1))]) (rest := []) ci_L_32 ct_X4_next cs_X4_next (N_next0 l g X1) dL_law_1037 (k0 := 7) rfl rfl o1 rfl rfl (Nat.le_of_ble_eq_true rfl) (Nat.le_of_ble_eq_true rfl) (Nat.le_of_ble_eq_true rfl) (show cells + 1 + 1 ≤ 674477 by omega) (show slots + 6 + 6 ≤ 7078194 by omega) (fun v_ h2 hp_ => ?_) (fun _ _ z => z.elim)
  obtain ⟨rfl, X2⟩ := hp_
  obtain ⟨fs2, o2⟩ := X2.obj
  refine v_istore F (pc := 1040) (lo' := [some (.ref b), some (.ref x), some (.ref a2), some (.ref a3), some (.ref a4), some (.ref a5), some (.int (iI (σ 18 0))), some (.int (iI (1))), some (.int (iI (tn))), some (.int (iI (t))), none, some (.int (iI (y))), none, some (.int (iI (sz))), some (.int (iI (pw))), some (.int (iI (wt))), some (.int (iI (cd))), none, none, some (.int (iI (σ 17 0))), some (.int (iI (sm (dk σ1) (σ 17 0)))), some (.int (iI (nxt σ1 (-1)))), none, none]) dL_law_1040 (Nat.le_of_ble_eq_true rfl) rfl ?_
  have LP1042 : ∀ (N_ : Nat) (hq : fH) (bh : Int) (cl : Nat) (sl : Nat), (SL g x hq σ1 k0) → (-1 ≤ bh ∧ bh < 160) → (cl + 2 * N_ ≤ cells + 126) → (sl + 12 * N_ ≤ slots + 756) → (σ1 17 0 - cw σ1 (bh + 1)).toNat < N_ → V pX l eX room_1 sS mX args below meth cX Q 24 g AX (hq) (cl) (sl) 1042 [some (.ref b), some (.ref x), some (.ref a2), some (.ref a3), some (.ref a4), some (.ref a5), some (.int (iI (σ 18 0))), some (.int (iI (1))), some (.int (iI (tn))), some (.int (iI (t))), none, some (.int (iI (y))), none, some (.int (iI (sz))), some (.int (iI (pw))), some (.int (iI (wt))), some (.int (iI (cd))), none, none, some (.int (iI (σ 17 0))), some (.int (iI (sm (dk σ1) (σ 17 0) - ws σ1 (dk σ1) (bh + 1)))), some (.int (iI (nxt σ1 bh))), none, none] [] := by
    intro N_
    induction N_ with
    | zero => intro hq bh cl sl _ _ _ _ hm_; exact absurd hm_ (Nat.not_lt_zero _)
    | succ N_ ih =>
      intro hq bh cl sl Xq hbh hcl hsl hm_
      obtain ⟨fsq, oq⟩ := Xq.obj
      have hcr := cw_rng hIV1 (bh + 1)
      rcases nxt_cases hIV1 bh with ⟨e1, e2⟩ | ⟨K, k9, k1, e1, e2, e3⟩
      · have hz : sm (dk σ1) (σ 17 0) - ws σ1 (dk σ1) (bh + 1) = 0 := by rw [ws_end hIV1 e2, e17]; omega
        rw [e1, hz]
        refine v_iload F (pc := 1042) dL_law_1042 rfl ?_
        refine v_if_lt F (pc := 1044) (a := -1) 1077 dL_law_1044 (by decide) (by omega) (fun c_1 => ?_) (fun c_1 => ?_)
        · refine v_iload F (pc := 1077) dL_law_1077 rfl ?_
          refine v_if_ne F (pc := 1079) (a := 0) 1086 dL_law_1079 (by decide) (by omega) (fun c_2 => ?_) (fun c_2 => ?_)
          · exact absurd c_2 (by decide)
          · refine v_iconst F (pc := 1082) dL_law_1082 ?_
            refine v_goto F (pc := 1083) 1087 dL_law_1083 (by decide) ?_
            refine v_istore F (pc := 1087) (lo' := [some (.ref b), some (.ref x), some (.ref a2), some (.ref a3), some (.ref a4), some (.ref a5), some (.int (iI (σ 18 0))), some (.int (iI (1))), some (.int (iI (tn))), some (.int (iI (t))), none, some (.int (iI (y))), none, some (.int (iI (sz))), some (.int (iI (pw))), some (.int (iI (wt))), some (.int (iI (cd))), none, none, some (.int (iI (σ 17 0))), some (.int (iI (0))), some (.int (iI (-1))), none, none]) dL_law_1087 (Nat.le_of_ble_eq_true rfl) rfl ?_
            refine v_goto F (pc := 1089) 1144 dL_law_1089 (by decide) ?_
            rw [show σ 18 0 = σ1 18 0 by omega]
            exact v_wid (show cl ≤ cells + 130 by omega) (show sl ≤ slots + 18100 by omega) (V.fg (kk hq σ1 k0 Xq hAR2 (by omega) (by omega)) ⟨rfl, ⟨rfl, ⟨rfl, ⟨rfl, ⟨rfl, ⟨rfl, ⟨rfl, ⟨rfl, ⟨rfl, ⟨rfl, ⟨rfl, ⟨rfl, ⟨rfl, ⟨rfl, trivial⟩⟩⟩⟩⟩⟩⟩⟩⟩⟩⟩⟩⟩⟩)
        · exact absurd c_1 (by decide)
      · rw [e1]
        have hK := hIV1.mach k9 k1
        have hc1 : cw σ1 (m_way σ1 K + 1) = cw σ1 (bh + 1) + 1 := ws_step hIV1 k9 k1 e2 e3
        have hc2 := cw_rng hIV1 (m_way σ1 K + 1)
        have hw := wsd_rng hIV1 (bh + 1)
        rw [e17] at hw
        have hq : ws σ1 (dk σ1) (m_way σ1 K + 1) = ws σ1 (dk σ1) (bh + 1) + dk σ1 K := ws_step hIV1 k9 k1 e2 e3
        refine v_iload F (pc := 1042) dL_law_1042 rfl ?_
        refine v_if_lt F (pc := 1044) (a := σ1 10 K) 1077 dL_law_1044 (by decide) (by omega) (fun c_3 => ?_) (fun c_3 => ?_)
        · exfalso; omega
        · refine v_iload F (pc := 1047) dL_law_1047 rfl ?_
          refine v_aload_n F (pc := 1049) dL_law_1049 rfl ?_
          refine v_iload F (pc := 1050) dL_law_1050 rfl ?_
          refine v_callV F (pc := 1052) (As := [.int (iI (σ1 10 K))]) (rest := [.int (iI (sm (dk σ1) (σ 17 0) - ws σ1 (dk σ1) (bh + 1)))]) ci_L_64 ct_X4_isDark cs_X4_isDark (N_isDark l g Xq (σ1 10 K) hK.2.2.2.2.2.2.1 k9 (by omega)) dL_law_1052 (k0 := 7) rfl rfl oq rfl rfl (Nat.le_of_ble_eq_true rfl) (Nat.le_of_ble_eq_true rfl) (Nat.le_of_ble_eq_true rfl) (show cl + 1 ≤ 674477 by omega) (show sl + 6 ≤ 7078194 by omega) (fun v_ h3 hp_ => ?_) (fun _ _ z => z.elim)
          obtain ⟨rfl, X3⟩ := hp_
          obtain ⟨fs3, o3⟩ := X3.obj
          refine v_if_eqB F (pc := 1055) (b := (m_dark σ1 K)) 1062 dL_law_1055 (by decide) (fun c_4 => ?_) (fun c_4 => ?_)
          · have hdk : dk σ1 K = 0 := by unfold dk; rw [c_4]; rfl
            refine v_iconst F (pc := 1062) dL_law_1062 ?_
            refine v_isub F (pc := 1063) (a := sm (dk σ1) (σ 17 0) - ws σ1 (dk σ1) (bh + 1)) (b := 0) dL_law_1063 ?_
            refine v_istore F (pc := 1064) (lo' := [some (.ref b), some (.ref x), some (.ref a2), some (.ref a3), some (.ref a4), some (.ref a5), some (.int (iI (σ 18 0))), some (.int (iI (1))), some (.int (iI (tn))), some (.int (iI (t))), none, some (.int (iI (y))), none, some (.int (iI (sz))), some (.int (iI (pw))), some (.int (iI (wt))), some (.int (iI (cd))), none, none, some (.int (iI (σ 17 0))), some (.int (iI ((sm (dk σ1) (σ 17 0) - ws σ1 (dk σ1) (bh + 1)) - 0))), some (.int (iI (σ1 10 K))), none, none]) dL_law_1064 (Nat.le_of_ble_eq_true rfl) rfl ?_
            refine v_aload_n F (pc := 1066) dL_law_1066 rfl ?_
            refine v_iload F (pc := 1067) dL_law_1067 rfl ?_
            refine v_callV F (pc := 1069) (As := [.int (iI (σ1 10 K))]) (rest := []) ci_L_32 ct_X4_next cs_X4_next (N_nextk l g X3 (σ1 10 K) hK.2.2.2.2.2.2.1 k9 (by omega) (by omega)) dL_law_1069 (k0 := 7) rfl rfl o3 rfl rfl (Nat.le_of_ble_eq_true rfl) (Nat.le_of_ble_eq_true rfl) (Nat.le_of_ble_eq_true rfl) (show cl + 1 + 1 ≤ 674477 by omega) (show sl + 6 + 6 ≤ 7078194 by omega) (fun v_ h4 hp_ => ?_) (fun _ _ z => z.elim)
            obtain ⟨rfl, X4⟩ := hp_
            obtain ⟨fs4, o4⟩ := X4.obj
            refine v_istore F (pc := 1072) (lo' := [some (.ref b), some (.ref x), some (.ref a2), some (.ref a3), some (.ref a4), some (.ref a5), some (.int (iI (σ 18 0))), some (.int (iI (1))), some (.int (iI (tn))), some (.int (iI (t))), none, some (.int (iI (y))), none, some (.int (iI (sz))), some (.int (iI (pw))), some (.int (iI (wt))), some (.int (iI (cd))), none, none, some (.int (iI (σ 17 0))), some (.int (iI ((sm (dk σ1) (σ 17 0) - ws σ1 (dk σ1) (bh + 1)) - 0))), some (.int (iI (nxt σ1 (m_way σ1 K)))), none, none]) dL_law_1072 (Nat.le_of_ble_eq_true rfl) rfl ?_
            refine v_goto F (pc := 1074) 1042 dL_law_1074 (by decide) ?_
            have k := ih h4 (m_way σ1 K) (cl + 1 + 1) (sl + 6 + 6) X4 (by omega) (by omega) (by omega) (by omega)
            rw [show sm (dk σ1) (σ 17 0) - ws σ1 (dk σ1) (m_way σ1 K + 1) = (sm (dk σ1) (σ 17 0) - ws σ1 (dk σ1) (bh + 1)) - 0 from by omega] at k
            exact V.fg (k) ⟨rfl, ⟨rfl, ⟨rfl, ⟨rfl, ⟨rfl, ⟨rfl, ⟨rfl, ⟨rfl, ⟨rfl, ⟨rfl, ⟨rfl, ⟨rfl, ⟨rfl, ⟨rfl, ⟨rfl, ⟨rfl, ⟨rfl, ⟨rfl, trivial⟩⟩⟩⟩⟩⟩⟩⟩⟩⟩⟩⟩⟩⟩⟩⟩⟩⟩
          · have hdk : dk σ1 K = 1 := by unfold dk; rw [c_4]; rfl
            refine v_iconst F (pc := 1058) dL_law_1058 ?_
            refine v_goto F (pc := 1059) 1063 dL_law_1059 (by decide) ?_
            refine v_isub F (pc := 1063) (a := sm (dk σ1) (σ 17 0) - ws σ1 (dk σ1) (bh + 1)) (b := 1) dL_law_1063 ?_
            refine v_istore F (pc := 1064) (lo' := [some (.ref b), some (.ref x), some (.ref a2), some (.ref a3), some (.ref a4), some (.ref a5), some (.int (iI (σ 18 0))), some (.int (iI (1))), some (.int (iI (tn))), some (.int (iI (t))), none, some (.int (iI (y))), none, some (.int (iI (sz))), some (.int (iI (pw))), some (.int (iI (wt))), some (.int (iI (cd))), none, none, some (.int (iI (σ 17 0))), some (.int (iI ((sm (dk σ1) (σ 17 0) - ws σ1 (dk σ1) (bh + 1)) - 1))), some (.int (iI (σ1 10 K))), none, none]) dL_law_1064 (Nat.le_of_ble_eq_true rfl) rfl ?_
            refine v_aload_n F (pc := 1066) dL_law_1066 rfl ?_
            refine v_iload F (pc := 1067) dL_law_1067 rfl ?_
            refine v_callV F (pc := 1069) (As := [.int (iI (σ1 10 K))]) (rest := []) ci_L_32 ct_X4_next cs_X4_next (N_nextk l g X3 (σ1 10 K) hK.2.2.2.2.2.2.1 k9 (by omega) (by omega)) dL_law_1069 (k0 := 7) rfl rfl o3 rfl rfl (Nat.le_of_ble_eq_true rfl) (Nat.le_of_ble_eq_true rfl) (Nat.le_of_ble_eq_true rfl) (show cl + 1 + 1 ≤ 674477 by omega) (show sl + 6 + 6 ≤ 7078194 by omega) (fun v_ h5 hp_ => ?_) (fun _ _ z => z.elim)
            obtain ⟨rfl, X5⟩ := hp_
            obtain ⟨fs5, o5⟩ := X5.obj
            refine v_istore F (pc := 1072) (lo' := [some (.ref b), some (.ref x), some (.ref a2), some (.ref a3), some (.ref a4), some (.ref a5), some (.int (iI (σ 18 0))), some (.int (iI (1))), some (.int (iI (tn))), some (.int (iI (t))), none, some (.int (iI (y))), none, some (.int (iI (sz))), some (.int (iI (pw))), some (.int (iI (wt))), some (.int (iI (cd))), none, none, some (.int (iI (σ 17 0))), some (.int (iI ((sm (dk σ1) (σ 17 0) - ws σ1 (dk σ1) (bh + 1)) - 1))), some (.int (iI (nxt σ1 (m_way σ1 K)))), none, none]) dL_law_1072 (Nat.le_of_ble_eq_true rfl) rfl ?_
            refine v_goto F (pc := 1074) 1042 dL_law_1074 (by decide) ?_
            have k := ih h5 (m_way σ1 K) (cl + 1 + 1) (sl + 6 + 6) X5 (by omega) (by omega) (by omega) (by omega)
            rw [show sm (dk σ1) (σ 17 0) - ws σ1 (dk σ1) (m_way σ1 K + 1) = (sm (dk σ1) (σ 17 0) - ws σ1 (dk σ1) (bh + 1)) - 1 from by omega] at k
            exact V.fg (k) ⟨rfl, ⟨rfl, ⟨rfl, ⟨rfl, ⟨rfl, ⟨rfl, ⟨rfl, ⟨rfl, ⟨rfl, ⟨rfl, ⟨rfl, ⟨rfl, ⟨rfl, ⟨rfl, ⟨rfl, ⟨rfl, ⟨rfl, ⟨rfl, trivial⟩⟩⟩⟩⟩⟩⟩⟩⟩⟩⟩⟩⟩⟩⟩⟩⟩⟩
  have e0 : ws σ1 (dk σ1) (-1 + 1) = 0 := ws_0 hIV1
  have k := LP1042 61 h2 (-1) (cells + 1 + 1) (slots + 6 + 6) X2 (by omega) (by omega) (by omega) (by have := cw_rng hIV1 (-1 + 1); omega)
  rw [e0, Int.sub_zero] at k
  exact V.fg (k) ⟨rfl, ⟨rfl, ⟨rfl, ⟨rfl, ⟨rfl, ⟨rfl, ⟨rfl, ⟨rfl, ⟨rfl, ⟨rfl, ⟨rfl, ⟨rfl, ⟨rfl, ⟨rfl, ⟨rfl, ⟨rfl, ⟨rfl, ⟨rfl, trivial⟩⟩⟩⟩⟩⟩⟩⟩⟩⟩⟩⟩⟩⟩⟩⟩⟩⟩
-- the law, from 1092
set_option maxRecDepth 100000 in
set_option maxHeartbeats 8000000 in
theorem D_pack {pX : Program} {l : Launch} {eX : Env} {sS : State} {mX : MethodId} {args : Array Value} {below : List Frame} {meth : Method} {cX : Code} {Q : State → Prop} {g : gT} {AX : Nat → Prop} (F : Fx pX l sS mX args meth cX cL_law 24 ret RL g AX) {x a2 a3 a4 a5 b : Nat} {h0 : fH} {σ : sT} {k0 : fH} (X0 : SL g x h0 σ k0) (hAR : AR g k0 a2 a3 a4 a5 σ) {tn t y sz pw wt cd : Int} (hkd : cKD sz pw wt cd) (hgv : σ 18 0 < 1000) (hy : -2147483648 ≤ y ∧ y ≤ 2147483647) {cells slots : Nat} (hc : cells + 130 ≤ 674477) (hs : slots + 18100 ≤ 7078194)  (kk : ∀ (h2 : fH) (σ2 : sT) (k2 : fH), SL g x h2 σ2 k2 → AR g k2 a2 a3 a4 a5 σ2 → 0 ≤ σ2 18 0 → σ2 18 0 ≤ σ 18 0 + 1 → V pX l eX room_1 sS mX args below meth cX Q 24 g AX h2 (cells + 130) (slots + 18100) 1144 [some (.ref b), some (.ref x), some (.ref a2), some (.ref a3), some (.ref a4), some (.ref a5), some (.int (iI (σ2 18 0))), some (.int (iI (1))), some (.int (iI (tn))), some (.int (iI (t))), none, none, none, some (.int (iI (sz))), some (.int (iI (pw))), some (.int (iI (wt))), some (.int (iI (cd))), none, none, none, none, none, none, none] []) : V pX l eX room_1 sS mX args below meth cX Q 24 g AX (h0) (cells) (slots) 1092 [some (.ref b), some (.ref x), some (.ref a2), some (.ref a3), some (.ref a4), some (.ref a5), some (.int (iI (σ 18 0))), some (.int (iI (1))), some (.int (iI (tn))), some (.int (iI (t))), none, some (.int (iI (y))), none, some (.int (iI (sz))), some (.int (iI (pw))), some (.int (iI (wt))), some (.int (iI (cd))), none, none, some (.int (iI (σ 17 0))), none, none, none, none] [] := by
  have hIV := X0.iv
  have hm := mb_nm hIV.1
  have hn := mb_nr hIV.1
  have h18 : (0 : Int) ≤ σ 18 0 := (hIV.1 18 0 (by decide) (by decide)).1
  have hAR0 := hAR
  obtain ⟨⟨d23, d24, d25, d34, d35, d45⟩, SF, LF, WF, MF, q2, q3, q4, q5, hS, hM⟩ := hAR
  obtain ⟨fs0, o0⟩ := X0.obj
  refine v_aload_n F (pc := 1092) dL_law_1092 rfl ?_
  refine v_callV F (pc := 1093) (As := []) (rest := []) ci_L_119 ct_X4_pack cs_X4_pack (N_pack l g X0) dL_law_1093 (k0 := 7) rfl rfl o0 rfl rfl (Nat.le_of_ble_eq_true rfl) (Nat.le_of_ble_eq_true rfl) (Nat.le_of_ble_eq_true rfl) (show cells + 60 ≤ 674477 by omega) (show slots + 9000 ≤ 7078194 by omega) (fun v_ h1 hp_ => ?_) (fun _ _ z => z.elim)
  obtain ⟨rfl, X1⟩ := hp_
  obtain ⟨fs1, o1⟩ := X1.obj
  obtain ⟨σ1, e1⟩ : ∃ z, pk_s σ = z := ⟨_, rfl⟩
  have hpt := pack_twice hIV X1.iv
  rw [e1] at hpt
  rw [e1] at X1
  have e17 : σ1 17 0 = σ 17 0 := by rw [← e1, pk_fix (by decide)]
  have e18 : pk_s σ1 18 0 = σ 18 0 := by rw [pk_fix (by decide), ← e1, pk_fix (by decide)]
  have hAR2 := hAR0.to (σ' := pk_s σ1) (fun f z z1 z2 => by rw [pk_fix (by omega), ← e1, pk_fix (by omega)])
  refine v_istore F (pc := 1096) (lo' := [some (.ref b), some (.ref x), some (.ref a2), some (.ref a3), some (.ref a4), some (.ref a5), some (.int (iI (σ 18 0))), some (.int (iI (1))), some (.int (iI (tn))), some (.int (iI (t))), none, some (.int (iI (y))), none, some (.int (iI (sz))), some (.int (iI (pw))), some (.int (iI (wt))), some (.int (iI (cd))), none, none, some (.int (iI (σ 17 0))), some (.int (iI (pk_a σ))), none, none, none]) dL_law_1096 (Nat.le_of_ble_eq_true rfl) rfl ?_
  refine v_iload F (pc := 1098) dL_law_1098 rfl ?_
  refine v_iconst F (pc := 1100) dL_law_1100 ?_
  refine v_icmp_lt F (pc := 1101) (a := pk_a σ) (b := -1) 1141 dL_law_1101 (by decide) (by omega) (by omega) (fun c_1 => ?_) (fun c_1 => ?_)
  · exfalso; omega
  · refine v_iload F (pc := 1104) dL_law_1104 rfl ?_
    refine v_iload F (pc := 1106) dL_law_1106 rfl ?_
    refine v_icmp_gt F (pc := 1108) (a := pk_a σ) (b := σ 17 0) 1141 dL_law_1108 (by decide) (by omega) (by omega) (fun c_2 => ?_) (fun c_2 => ?_)
    · exfalso; omega
    · refine v_aload_n F (pc := 1111) dL_law_1111 rfl ?_
      refine v_callV F (pc := 1112) (As := []) (rest := []) ci_L_41 ct_X4_machines cs_X4_machines (N_machines l g X1) dL_law_1112 (k0 := 7) rfl rfl o1 rfl rfl (Nat.le_of_ble_eq_true rfl) (Nat.le_of_ble_eq_true rfl) (Nat.le_of_ble_eq_true rfl) (show cells + 60 + 0 ≤ 674477 by omega) (show slots + 9000 + 0 ≤ 7078194 by omega) (fun v_ h2 hp_ => ?_) (fun _ _ z => z.elim)
      obtain ⟨rfl, X2⟩ := hp_
      obtain ⟨fs2, o2⟩ := X2.obj
      refine v_iload F (pc := 1115) dL_law_1115 rfl ?_
      refine v_icmp_ne F (pc := 1117) (a := σ1 17 0) (b := σ 17 0) 1141 dL_law_1117 (by decide) (by omega) (by omega) (fun c_3 => ?_) (fun c_3 => ?_)
      · exfalso; omega
      · refine v_aload_n F (pc := 1120) dL_law_1120 rfl ?_
        refine v_callV F (pc := 1121) (As := []) (rest := []) ci_L_119 ct_X4_pack cs_X4_pack (N_pack l g X2) dL_law_1121 (k0 := 7) rfl rfl o2 rfl rfl (Nat.le_of_ble_eq_true rfl) (Nat.le_of_ble_eq_true rfl) (Nat.le_of_ble_eq_true rfl) (show cells + 60 + 60 ≤ 674477 by omega) (show slots + 9000 + 9000 ≤ 7078194 by omega) (fun v_ h3 hp_ => ?_) (fun _ _ z => z.elim)
        obtain ⟨rfl, X3⟩ := hp_
        obtain ⟨fs3, o3⟩ := X3.obj
        have hpr : -1 ≤ pk_a σ1 ∧ pk_a σ1 ≤ 0 := by rw [hpt.2]; split <;> omega
        refine v_iload F (pc := 1124) dL_law_1124 rfl ?_
        refine v_if_ge F (pc := 1126) (a := pk_a σ) 1133 dL_law_1126 (by decide) (by omega) (fun c_4 => ?_) (fun c_4 => ?_)
        · have hp2 := hpt.2
          rw [if_neg (by omega)] at hp2
          refine v_iconst F (pc := 1133) dL_law_1133 ?_
          refine v_icmp_ne F (pc := 1134) (a := pk_a σ1) (b := 0) 1141 dL_law_1134 (by decide) (by omega) (by omega) (fun c_5 => ?_) (fun c_5 => ?_)
          · exfalso; omega
          · refine v_iconst F (pc := 1137) dL_law_1137 ?_
            refine v_goto F (pc := 1138) 1142 dL_law_1138 (by decide) ?_
            refine v_istore F (pc := 1142) (lo' := [some (.ref b), some (.ref x), some (.ref a2), some (.ref a3), some (.ref a4), some (.ref a5), some (.int (iI (σ 18 0))), some (.int (iI (1))), some (.int (iI (tn))), some (.int (iI (t))), none, some (.int (iI (y))), none, some (.int (iI (sz))), some (.int (iI (pw))), some (.int (iI (wt))), some (.int (iI (cd))), none, none, some (.int (iI (σ 17 0))), some (.int (iI (pk_a σ))), none, none, none]) dL_law_1142 (Nat.le_of_ble_eq_true rfl) rfl ?_
            rw [show σ 18 0 = pk_s σ1 18 0 by omega]
            exact v_wid (show cells + 60 + 60 ≤ cells + 130 by omega) (show slots + 9000 + 9000 ≤ slots + 18100 by omega) (V.fg (kk h3 (pk_s σ1) k0 X3 hAR2 (by omega) (by omega)) ⟨rfl, ⟨rfl, ⟨rfl, ⟨rfl, ⟨rfl, ⟨rfl, ⟨rfl, ⟨rfl, ⟨rfl, ⟨rfl, ⟨rfl, ⟨rfl, ⟨rfl, ⟨rfl, trivial⟩⟩⟩⟩⟩⟩⟩⟩⟩⟩⟩⟩⟩⟩)
        · have hp2 := hpt.2
          rw [if_pos (by omega)] at hp2
          refine v_iconst F (pc := 1129) dL_law_1129 ?_
          refine v_goto F (pc := 1130) 1134 dL_law_1130 (by decide) ?_
          refine v_icmp_ne F (pc := 1134) (a := pk_a σ1) (b := -1) 1141 dL_law_1134 (by decide) (by omega) (by omega) (fun c_6 => ?_) (fun c_6 => ?_)
          · exfalso; omega
          · refine v_iconst F (pc := 1137) dL_law_1137 ?_
            refine v_goto F (pc := 1138) 1142 dL_law_1138 (by decide) ?_
            refine v_istore F (pc := 1142) (lo' := [some (.ref b), some (.ref x), some (.ref a2), some (.ref a3), some (.ref a4), some (.ref a5), some (.int (iI (σ 18 0))), some (.int (iI (1))), some (.int (iI (tn))), some (.int (iI (t))), none, some (.int (iI (y))), none, some (.int (iI (sz))), some (.int (iI (pw))), some (.int (iI (wt))), some (.int (iI (cd))), none, none, some (.int (iI (σ 17 0))), some (.int (iI (pk_a σ))), none, none, none]) dL_law_1142 (Nat.le_of_ble_eq_true rfl) rfl ?_
            rw [show σ 18 0 = pk_s σ1 18 0 by omega]
            exact v_wid (show cells + 60 + 60 ≤ cells + 130 by omega) (show slots + 9000 + 9000 ≤ slots + 18100 by omega) (V.fg (kk h3 (pk_s σ1) k0 X3 hAR2 (by omega) (by omega)) ⟨rfl, ⟨rfl, ⟨rfl, ⟨rfl, ⟨rfl, ⟨rfl, ⟨rfl, ⟨rfl, ⟨rfl, ⟨rfl, ⟨rfl, ⟨rfl, ⟨rfl, ⟨rfl, trivial⟩⟩⟩⟩⟩⟩⟩⟩⟩⟩⟩⟩⟩⟩)
