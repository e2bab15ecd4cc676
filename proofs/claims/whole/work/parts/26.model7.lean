-- X5_pack
set_option maxRecDepth 100000 in
set_option maxHeartbeats 8000000 in
theorem k_X5_pack (l : Launch) (g : gT) {P : Nat → Nat} {σ : sT} (hP : mok P) (hB : MB σ) : CM l g yX5_pack cX5_pack 4 (some .int) ({ frames := 6, cells := 0, slots := 0, locals := 143 }) [.ref (P 0)] (mheap g P σ) (pV (some (.int (iI (pk_a σ)))) (mheap g P (pk_s σ))) (noX) := by
  refine CM.of (lo := [some (.ref (P 0)), none, none, none]) (by decide) (Nat.le_of_ble_eq_true rfl) (by simp [Value.category]) rfl ?_
  intro pX eX sX mX bX tX cX AX F htab hmn
  have F : Fx pX l sX mX ([.ref (P 0)] : List Value).toArray tX cX cX5_pack 4 (some .int) RX5 g AX := F
  have bm : (0 : Int) ≤ σ 17 0 ∧ σ 17 0 ≤ (60 : Int) := mb_nm hB
  have br : (0 : Int) ≤ σ 5 0 ∧ σ 5 0 ≤ (8 : Int) := mb_nr hB
  refine v_aload_n F (pc := 0) dX5_pack_0 rfl ?_
  refine v_iconst F (pc := 1) dX5_pack_1 ?_
  refine v_putf F (pc := 2) fp_X5_62_8 dX5_pack_2 (mh_0 hP) rfl rfl (Nat.le_of_ble_eq_true rfl) (h' := mheap g P (su σ 0 0 0)) (mu_0 hP 0) ?_
  have hB_1 : MB (su σ 0 0 0) := mb_su hB (show (0 : Int) ≤ 0 ∧ 0 ≤ (3 : Int) from by omega)
  refine v_iconst F (pc := 5) dX5_pack_5 ?_
  refine v_istore_n F (pc := 6) (lo' := [some (.ref (P 0)), some (.int (iI (0))), none, none]) dX5_pack_6 (Nat.le_of_ble_eq_true rfl) rfl ?_
  have LP7 : ∀ (N_ : Nat) (k : Int), (0 ≤ k) → (k ≤ σ 17 0) → ((σ 17 0) - k).toNat < N_ → VE pX l eX ({ frames := 6, cells := 0, slots := 0, locals := 143 }) sX mX ([.ref (P 0)] : List Value).toArray bX tX cX 4 g AX (mheap g P (m_p1 (su σ 0 0 0) k)) 0 0 7 [some (.ref (P 0)), some (.int (iI (k))), none, none] [] (pV (some (.int (iI (pk_a σ)))) (mheap g P (pk_s σ))) (noX) 0 0 := by
    intro N_
    induction N_ with
    | zero => intro k _ _ hm_; exact absurd hm_ (Nat.not_lt_zero _)
    | succ N_ ih =>
      intro k hk0 hk1 hm_
      have hBk := mb_p1 hB_1 k
      refine v_iload_n F (pc := 7) dX5_pack_7 rfl ?_
      refine v_aload_n F (pc := 8) dX5_pack_8 rfl ?_
      refine v_getf F (pc := 9) fd_X5_73_8 (v := .int (iI (σ 17 0))) dX5_pack_9 (mh_0 hP) rfl ?_
      have b_2 : (0 : Int) ≤ σ 17 0 ∧ σ 17 0 ≤ (60 : Int) := hBk 17 0 (by decide) (by decide)
      refine v_icmp_ge F (pc := 12) (a := k) (b := σ 17 0) 52 dX5_pack_12 (by decide) (by omega) (by omega) (fun c_3 => ?_) (fun c_3 => ?_)
      · have hBz := mb_p1 hB_1 (σ 17 0)
        rw [show k = σ 17 0 by omega]
        refine v_aload_n F (pc := 52) dX5_pack_52 rfl ?_
        refine v_callVp F (pc := 53) (As := []) (rest := []) ci_X5_130 ct_X5_nextToPack cs_X5_nextToPack (k_X5_nextToPack l g hP hBz) dX5_pack_53 (k0 := 8) rfl rfl (mh_0 hP) rfl rfl (Nat.le_of_ble_eq_true rfl) (Nat.le_of_ble_eq_true rfl) (Nat.le_of_ble_eq_true rfl) (Nat.le_of_ble_eq_true rfl) (Nat.le_of_ble_eq_true rfl) ?_ (fun _ _ z => z.elim)
        have rg_4 := m_nx_rng hBz
        refine v_istore_n F (pc := 56) (lo' := [some (.ref (P 0)), some (.int (iI (m_nx (m_p1 (su σ 0 0 0) (σ 17 0))))), none, none]) dX5_pack_56 (Nat.le_of_ble_eq_true rfl) rfl ?_
        have LP57 : ∀ (N_ : Nat) (τ : sT), (MB τ) → (m_wh τ = pk_R σ) → (m_cnt τ).toNat < N_ → VE pX l eX ({ frames := 6, cells := 0, slots := 0, locals := 143 }) sX mX ([.ref (P 0)] : List Value).toArray bX tX cX 4 g AX (mheap g P τ) 0 0 57 [some (.ref (P 0)), some (.int (iI (m_nx τ))), none, none] [] (pV (some (.int (iI (pk_a σ)))) (mheap g P (pk_s σ))) (noX) 0 0 := by
          intro N_
          induction N_ with
          | zero => intro τ _ _ hm_; exact absurd hm_ (Nat.not_lt_zero _)
          | succ N_ ih =>
            intro τ hBt hW hm_
            have rn := m_nx_rng hBt
            refine v_iload_n F (pc := 57) dX5_pack_57 rfl ?_
            refine v_iconst F (pc := 58) dX5_pack_58 ?_
            refine v_icmp_eq F (pc := 59) (a := m_nx τ) (b := -1) 79 dX5_pack_59 (by decide) (by omega) (by omega) (fun c_5 => ?_) (fun c_5 => ?_)
            · have n0 := c_5
              have hR : pk_R σ = (τ, m_nx τ) := by rw [← hW]; exact m_wh_stop (Or.inl n0)
              refine v_iconst F (pc := 79) dX5_pack_79 ?_
              refine v_istore_n F (pc := 80) (lo' := [some (.ref (P 0)), some (.int (iI (m_nx τ))), some (.int (iI (0))), none]) dX5_pack_80 (Nat.le_of_ble_eq_true rfl) rfl ?_
              refine v_iconst F (pc := 81) dX5_pack_81 ?_
              refine v_istore_n F (pc := 82) (lo' := [some (.ref (P 0)), some (.int (iI (m_nx τ))), some (.int (iI (0))), some (.int (iI (0)))]) dX5_pack_82 (Nat.le_of_ble_eq_true rfl) rfl ?_
              have bt := mb_nm hBt
              have LP83 : ∀ (N_ : Nat) (k : Int), (0 ≤ k) → (k ≤ τ 17 0) → ((τ 17 0) - k).toNat < N_ → VE pX l eX ({ frames := 6, cells := 0, slots := 0, locals := 143 }) sX mX ([.ref (P 0)] : List Value).toArray bX tX cX 4 g AX (mheap g P τ) 0 0 83 [some (.ref (P 0)), some (.int (iI (m_nx τ))), some (.int (iI (sm (m_mv τ) k))), some (.int (iI (k)))] [] (pV (some (.int (iI (pk_a σ)))) (mheap g P (pk_s σ))) (noX) 0 0 := by
                intro N_
                induction N_ with
                | zero => intro k _ _ hm_; exact absurd hm_ (Nat.not_lt_zero _)
                | succ N_ ih =>
                  intro k hk0 hk1 hm_
                  have hB3 := mb_p3 hBt k
                  have e15 := m_p3_15 τ k
                  have e16 := m_p3_16 τ k
                  have e19 : m_p3 τ k 19 k = τ 19 k := rfl
                  have e20 : m_p3 τ k 20 k = τ 20 k := rfl
                  refine v_iload_n F (pc := 83) dX5_pack_83 rfl ?_
                  refine v_aload_n F (pc := 84) dX5_pack_84 rfl ?_
                  refine v_getf F (pc := 85) fd_X5_73_8 (v := .int (iI (τ 17 0))) dX5_pack_85 (mh_0 hP) rfl ?_
                  have b_6 : (0 : Int) ≤ τ 17 0 ∧ τ 17 0 ≤ (60 : Int) := hBt 17 0 (by decide) (by decide)
                  refine v_icmp_ge F (pc := 88) (a := k) (b := τ 17 0) 187 dX5_pack_88 (by decide) (by omega) (by omega) (fun c_7 => ?_) (fun c_7 => ?_)
                  · refine v_iload_n F (pc := 187) dX5_pack_187 rfl ?_
                    refine v_iconst F (pc := 188) dX5_pack_188 ?_
                    refine v_icmp_ne F (pc := 189) (a := m_nx τ) (b := -1) 196 dX5_pack_189 (by decide) (by omega) (by omega) (fun c_8 => ?_) (fun c_8 => ?_)
                    · exact absurd n0 c_8
                    · refine v_iload_n F (pc := 192) dX5_pack_192 rfl ?_
                      refine v_goto F (pc := 193) 197 dX5_pack_193 (by decide) ?_
                      refine v_iret F (pc := 197) (z := (iI (sm (m_mv τ) k))) dX5_pack_197 rfl rfl (Nat.le_of_ble_eq_true rfl) (Nat.le_of_ble_eq_true rfl) ?_
                      exact ⟨by rw [show pk_a σ = sm (m_mv τ) (τ 17 0) from by unfold pk_a; rw [hR]; exact if_pos n0, show k = τ 17 0 by omega], by rw [show pk_s σ = τ from by unfold pk_s; rw [hR]; exact if_pos n0]⟩
                  · refine v_iload_n F (pc := 91) dX5_pack_91 rfl ?_
                    refine v_aload_n F (pc := 92) dX5_pack_92 rfl ?_
                    refine v_getf F (pc := 93) fd_X5_50_8 (v := .ref (P 15)) dX5_pack_93 (mh_0 hP) rfl ?_
                    refine v_iload_n F (pc := 96) dX5_pack_96 rfl ?_
                    refine v_iald F (pc := 97) (n := 60) (f := τ 15) (z := k) dX5_pack_97 (mh_15 hP) (by omega) (by decide) ?_
                    have b_9 : (-1 : Int) ≤ (τ 15) k ∧ (τ 15) k ≤ (7 : Int) := hBt 15 k (by omega) (show k < (60 : Int) by omega)
                    refine v_aload_n F (pc := 98) dX5_pack_98 rfl ?_
                    refine v_getf F (pc := 99) fd_X5_56_8 (v := .ref (P 19)) dX5_pack_99 (mh_0 hP) rfl ?_
                    refine v_iload_n F (pc := 102) dX5_pack_102 rfl ?_
                    refine v_iald F (pc := 103) (n := 60) (f := τ 19) (z := k) dX5_pack_103 (mh_19 hP) (by omega) (by decide) ?_
                    have b_10 : (-1 : Int) ≤ (τ 19) k ∧ (τ 19) k ≤ (7 : Int) := hBt 19 k (by omega) (show k < (60 : Int) by omega)
                    refine v_icmp_ne F (pc := 104) (a := (τ 15) k) (b := (τ 19) k) 122 dX5_pack_104 (by decide) (by omega) (by omega) (fun c_11 => ?_) (fun c_11 => ?_)
                    · refine v_iconst F (pc := 122) dX5_pack_122 ?_
                      refine v_goto F (pc := 123) 127 dX5_pack_123 (by decide) ?_
                      refine v_iadd F (pc := 127) (a := sm (m_mv τ) k) (b := 1) dX5_pack_127 ?_
                      refine v_istore_n F (pc := 128) (lo' := [some (.ref (P 0)), some (.int (iI (m_nx τ))), some (.int (iI ((sm (m_mv τ) k) + 1))), some (.int (iI (k)))]) dX5_pack_128 (Nat.le_of_ble_eq_true rfl) rfl ?_
                      refine v_aload_n F (pc := 129) dX5_pack_129 rfl ?_
                      refine v_getf F (pc := 130) fd_X5_50_8 (v := .ref (P 15)) dX5_pack_130 (mh_0 hP) rfl ?_
                      refine v_iload_n F (pc := 133) dX5_pack_133 rfl ?_
                      refine v_iload_n F (pc := 134) dX5_pack_134 rfl ?_
                      refine v_iconst F (pc := 135) dX5_pack_135 ?_
                      refine v_icmp_ne F (pc := 136) (a := m_nx τ) (b := -1) 148 dX5_pack_136 (by decide) (by omega) (by omega) (fun c_12 => ?_) (fun c_12 => ?_)
                      · exact absurd n0 c_12
                      · refine v_aload_n F (pc := 139) dX5_pack_139 rfl ?_
                        refine v_getf F (pc := 140) fd_X5_50_8 (v := .ref (P 15)) dX5_pack_140 (mh_0 hP) rfl ?_
                        refine v_iload_n F (pc := 143) dX5_pack_143 rfl ?_
                        refine v_iald F (pc := 144) (n := 60) (f := τ 15) (z := k) dX5_pack_144 (mh_15 hP) (by omega) (by decide) ?_
                        have b_13 : (-1 : Int) ≤ (τ 15) k ∧ (τ 15) k ≤ (7 : Int) := hBt 15 k (by omega) (show k < (60 : Int) by omega)
                        refine v_goto F (pc := 145) 154 dX5_pack_145 (by decide) ?_
                        refine v_iast F (pc := 154) (n := 60) (f := τ 15) (z := k) (x := (τ 15) k) dX5_pack_154 (mh_15 hP) (by omega) (by decide)  (h' := mheap g P (su τ 15 k ((τ 15) k))) (mu_15 hP k ((τ 15) k)) ?_
                        have hB_14 : MB (su τ 15 k ((τ 15) k)) := mb_su hBt (show (-1 : Int) ≤ (τ 15) k ∧ (τ 15) k ≤ (7 : Int) from by omega)
                        refine v_aload_n F (pc := 155) dX5_pack_155 rfl ?_
                        refine v_getf F (pc := 156) fd_X5_53_8 (v := .ref (P 16)) dX5_pack_156 (mh_0 hP) rfl ?_
                        refine v_iload_n F (pc := 159) dX5_pack_159 rfl ?_
                        refine v_iload_n F (pc := 160) dX5_pack_160 rfl ?_
                        refine v_iconst F (pc := 161) dX5_pack_161 ?_
                        refine v_icmp_ne F (pc := 162) (a := m_nx τ) (b := -1) 174 dX5_pack_162 (by decide) (by omega) (by omega) (fun c_15 => ?_) (fun c_15 => ?_)
                        · exact absurd n0 c_15
                        · refine v_aload_n F (pc := 165) dX5_pack_165 rfl ?_
                          refine v_getf F (pc := 166) fd_X5_53_8 (v := .ref (P 16)) dX5_pack_166 (mh_0 hP) rfl ?_
                          refine v_iload_n F (pc := 169) dX5_pack_169 rfl ?_
                          refine v_iald F (pc := 170) (n := 60) (f := τ 16) (z := k) dX5_pack_170 (mh_16 hP) (by omega) (by decide) ?_
                          have b_16 : (0 : Int) ≤ (τ 16) k ∧ (τ 16) k ≤ (19 : Int) := hB_14 16 k (by omega) (show k < (60 : Int) by omega)
                          refine v_goto F (pc := 171) 180 dX5_pack_171 (by decide) ?_
                          refine v_iast F (pc := 180) (n := 60) (f := τ 16) (z := k) (x := (τ 16) k) dX5_pack_180 (mh_16 hP) (by omega) (by decide)  (h' := mheap g P (su (su τ 15 k ((τ 15) k)) 16 k ((τ 16) k))) (mu_16 hP k ((τ 16) k)) ?_
                          have hB_17 : MB (su (su τ 15 k ((τ 15) k)) 16 k ((τ 16) k)) := mb_su hB_14 (show (0 : Int) ≤ (τ 16) k ∧ (τ 16) k ≤ (19 : Int) from by omega)
                          refine v_iinc F (pc := 181) (lo' := [some (.ref (P 0)), some (.int (iI (m_nx τ))), some (.int (iI ((sm (m_mv τ) k) + 1))), some (.int (iI (k + 1)))]) dX5_pack_181 rfl (Nat.le_of_ble_eq_true rfl) rfl ?_
                          refine v_goto F (pc := 184) 83 dX5_pack_184 (by decide) ?_
                          have bt := mb_nm hBt
                          have e_ : sm (m_mv τ) (k + 1) = (sm (m_mv τ) k) + 1 := by rw [sm_s _ hk0]; exact congrArg (fun z => sm (m_mv τ) k + z) (show m_mv τ k = 1 by simp only [m_mv]; split <;> first | rfl | omega)
                          have ih2 := ih (k + 1) (by omega) (by omega) (by omega)
                          rw [e_] at ih2
                          rw [su_self, su_self]
                          exact ih2
                    · refine v_aload_n F (pc := 107) dX5_pack_107 rfl ?_
                      refine v_getf F (pc := 108) fd_X5_53_8 (v := .ref (P 16)) dX5_pack_108 (mh_0 hP) rfl ?_
                      refine v_iload_n F (pc := 111) dX5_pack_111 rfl ?_
                      refine v_iald F (pc := 112) (n := 60) (f := τ 16) (z := k) dX5_pack_112 (mh_16 hP) (by omega) (by decide) ?_
                      have b_18 : (0 : Int) ≤ (τ 16) k ∧ (τ 16) k ≤ (19 : Int) := hBt 16 k (by omega) (show k < (60 : Int) by omega)
                      refine v_aload_n F (pc := 113) dX5_pack_113 rfl ?_
                      refine v_getf F (pc := 114) fd_X5_59_8 (v := .ref (P 20)) dX5_pack_114 (mh_0 hP) rfl ?_
                      refine v_iload_n F (pc := 117) dX5_pack_117 rfl ?_
                      refine v_iald F (pc := 118) (n := 60) (f := τ 20) (z := k) dX5_pack_118 (mh_20 hP) (by omega) (by decide) ?_
                      have b_19 : (0 : Int) ≤ (τ 20) k ∧ (τ 20) k ≤ (19 : Int) := hBt 20 k (by omega) (show k < (60 : Int) by omega)
                      refine v_icmp_eq F (pc := 119) (a := (τ 16) k) (b := (τ 20) k) 126 dX5_pack_119 (by decide) (by omega) (by omega) (fun c_20 => ?_) (fun c_20 => ?_)
                      · refine v_iconst F (pc := 126) dX5_pack_126 ?_
                        refine v_iadd F (pc := 127) (a := sm (m_mv τ) k) (b := 0) dX5_pack_127 ?_
                        refine v_istore_n F (pc := 128) (lo' := [some (.ref (P 0)), some (.int (iI (m_nx τ))), some (.int (iI ((sm (m_mv τ) k) + 0))), some (.int (iI (k)))]) dX5_pack_128 (Nat.le_of_ble_eq_true rfl) rfl ?_
                        refine v_aload_n F (pc := 129) dX5_pack_129 rfl ?_
                        refine v_getf F (pc := 130) fd_X5_50_8 (v := .ref (P 15)) dX5_pack_130 (mh_0 hP) rfl ?_
                        refine v_iload_n F (pc := 133) dX5_pack_133 rfl ?_
                        refine v_iload_n F (pc := 134) dX5_pack_134 rfl ?_
                        refine v_iconst F (pc := 135) dX5_pack_135 ?_
                        refine v_icmp_ne F (pc := 136) (a := m_nx τ) (b := -1) 148 dX5_pack_136 (by decide) (by omega) (by omega) (fun c_21 => ?_) (fun c_21 => ?_)
                        · exact absurd n0 c_21
                        · refine v_aload_n F (pc := 139) dX5_pack_139 rfl ?_
                          refine v_getf F (pc := 140) fd_X5_50_8 (v := .ref (P 15)) dX5_pack_140 (mh_0 hP) rfl ?_
                          refine v_iload_n F (pc := 143) dX5_pack_143 rfl ?_
                          refine v_iald F (pc := 144) (n := 60) (f := τ 15) (z := k) dX5_pack_144 (mh_15 hP) (by omega) (by decide) ?_
                          have b_22 : (-1 : Int) ≤ (τ 15) k ∧ (τ 15) k ≤ (7 : Int) := hBt 15 k (by omega) (show k < (60 : Int) by omega)
                          refine v_goto F (pc := 145) 154 dX5_pack_145 (by decide) ?_
                          refine v_iast F (pc := 154) (n := 60) (f := τ 15) (z := k) (x := (τ 15) k) dX5_pack_154 (mh_15 hP) (by omega) (by decide)  (h' := mheap g P (su τ 15 k ((τ 15) k))) (mu_15 hP k ((τ 15) k)) ?_
                          have hB_23 : MB (su τ 15 k ((τ 15) k)) := mb_su hBt (show (-1 : Int) ≤ (τ 15) k ∧ (τ 15) k ≤ (7 : Int) from by omega)
                          refine v_aload_n F (pc := 155) dX5_pack_155 rfl ?_
                          refine v_getf F (pc := 156) fd_X5_53_8 (v := .ref (P 16)) dX5_pack_156 (mh_0 hP) rfl ?_
                          refine v_iload_n F (pc := 159) dX5_pack_159 rfl ?_
                          refine v_iload_n F (pc := 160) dX5_pack_160 rfl ?_
                          refine v_iconst F (pc := 161) dX5_pack_161 ?_
                          refine v_icmp_ne F (pc := 162) (a := m_nx τ) (b := -1) 174 dX5_pack_162 (by decide) (by omega) (by omega) (fun c_24 => ?_) (fun c_24 => ?_)
                          · exact absurd n0 c_24
                          · refine v_aload_n F (pc := 165) dX5_pack_165 rfl ?_
                            refine v_getf F (pc := 166) fd_X5_53_8 (v := .ref (P 16)) dX5_pack_166 (mh_0 hP) rfl ?_
                            refine v_iload_n F (pc := 169) dX5_pack_169 rfl ?_
                            refine v_iald F (pc := 170) (n := 60) (f := τ 16) (z := k) dX5_pack_170 (mh_16 hP) (by omega) (by decide) ?_
                            have b_25 : (0 : Int) ≤ (τ 16) k ∧ (τ 16) k ≤ (19 : Int) := hB_23 16 k (by omega) (show k < (60 : Int) by omega)
                            refine v_goto F (pc := 171) 180 dX5_pack_171 (by decide) ?_
                            refine v_iast F (pc := 180) (n := 60) (f := τ 16) (z := k) (x := (τ 16) k) dX5_pack_180 (mh_16 hP) (by omega) (by decide)  (h' := mheap g P (su (su τ 15 k ((τ 15) k)) 16 k ((τ 16) k))) (mu_16 hP k ((τ 16) k)) ?_
                            have hB_26 : MB (su (su τ 15 k ((τ 15) k)) 16 k ((τ 16) k)) := mb_su hB_23 (show (0 : Int) ≤ (τ 16) k ∧ (τ 16) k ≤ (19 : Int) from by omega)
                            refine v_iinc F (pc := 181) (lo' := [some (.ref (P 0)), some (.int (iI (m_nx τ))), some (.int (iI ((sm (m_mv τ) k) + 0))), some (.int (iI (k + 1)))]) dX5_pack_181 rfl (Nat.le_of_ble_eq_true rfl) rfl ?_
                            refine v_goto F (pc := 184) 83 dX5_pack_184 (by decide) ?_
                            have bt := mb_nm hBt
                            have e_ : sm (m_mv τ) (k + 1) = (sm (m_mv τ) k) + 0 := by rw [sm_s _ hk0]; exact congrArg (fun z => sm (m_mv τ) k + z) (show m_mv τ k = 0 by simp only [m_mv]; split <;> first | rfl | omega)
                            have ih2 := ih (k + 1) (by omega) (by omega) (by omega)
                            rw [e_] at ih2
                            rw [su_self, su_self]
                            exact ih2
                      · refine v_iconst F (pc := 122) dX5_pack_122 ?_
                        refine v_goto F (pc := 123) 127 dX5_pack_123 (by decide) ?_
                        refine v_iadd F (pc := 127) (a := sm (m_mv τ) k) (b := 1) dX5_pack_127 ?_
                        refine v_istore_n F (pc := 128) (lo' := [some (.ref (P 0)), some (.int (iI (m_nx τ))), some (.int (iI ((sm (m_mv τ) k) + 1))), some (.int (iI (k)))]) dX5_pack_128 (Nat.le_of_ble_eq_true rfl) rfl ?_
                        refine v_aload_n F (pc := 129) dX5_pack_129 rfl ?_
                        refine v_getf F (pc := 130) fd_X5_50_8 (v := .ref (P 15)) dX5_pack_130 (mh_0 hP) rfl ?_
                        refine v_iload_n F (pc := 133) dX5_pack_133 rfl ?_
                        refine v_iload_n F (pc := 134) dX5_pack_134 rfl ?_
                        refine v_iconst F (pc := 135) dX5_pack_135 ?_
                        refine v_icmp_ne F (pc := 136) (a := m_nx τ) (b := -1) 148 dX5_pack_136 (by decide) (by omega) (by omega) (fun c_27 => ?_) (fun c_27 => ?_)
                        · exact absurd n0 c_27
                        · refine v_aload_n F (pc := 139) dX5_pack_139 rfl ?_
                          refine v_getf F (pc := 140) fd_X5_50_8 (v := .ref (P 15)) dX5_pack_140 (mh_0 hP) rfl ?_
                          refine v_iload_n F (pc := 143) dX5_pack_143 rfl ?_
                          refine v_iald F (pc := 144) (n := 60) (f := τ 15) (z := k) dX5_pack_144 (mh_15 hP) (by omega) (by decide) ?_
                          have b_28 : (-1 : Int) ≤ (τ 15) k ∧ (τ 15) k ≤ (7 : Int) := hBt 15 k (by omega) (show k < (60 : Int) by omega)
                          refine v_goto F (pc := 145) 154 dX5_pack_145 (by decide) ?_
                          refine v_iast F (pc := 154) (n := 60) (f := τ 15) (z := k) (x := (τ 15) k) dX5_pack_154 (mh_15 hP) (by omega) (by decide)  (h' := mheap g P (su τ 15 k ((τ 15) k))) (mu_15 hP k ((τ 15) k)) ?_
                          have hB_29 : MB (su τ 15 k ((τ 15) k)) := mb_su hBt (show (-1 : Int) ≤ (τ 15) k ∧ (τ 15) k ≤ (7 : Int) from by omega)
                          refine v_aload_n F (pc := 155) dX5_pack_155 rfl ?_
                          refine v_getf F (pc := 156) fd_X5_53_8 (v := .ref (P 16)) dX5_pack_156 (mh_0 hP) rfl ?_
                          refine v_iload_n F (pc := 159) dX5_pack_159 rfl ?_
                          refine v_iload_n F (pc := 160) dX5_pack_160 rfl ?_
                          refine v_iconst F (pc := 161) dX5_pack_161 ?_
                          refine v_icmp_ne F (pc := 162) (a := m_nx τ) (b := -1) 174 dX5_pack_162 (by decide) (by omega) (by omega) (fun c_30 => ?_) (fun c_30 => ?_)
                          · exact absurd n0 c_30
                          · refine v_aload_n F (pc := 165) dX5_pack_165 rfl ?_
                            refine v_getf F (pc := 166) fd_X5_53_8 (v := .ref (P 16)) dX5_pack_166 (mh_0 hP) rfl ?_
                            refine v_iload_n F (pc := 169) dX5_pack_169 rfl ?_
                            refine v_iald F (pc := 170) (n := 60) (f := τ 16) (z := k) dX5_pack_170 (mh_16 hP) (by omega) (by decide) ?_
                            have b_31 : (0 : Int) ≤ (τ 16) k ∧ (τ 16) k ≤ (19 : Int) := hB_29 16 k (by omega) (show k < (60 : Int) by omega)
                            refine v_goto F (pc := 171) 180 dX5_pack_171 (by decide) ?_
                            refine v_iast F (pc := 180) (n := 60) (f := τ 16) (z := k) (x := (τ 16) k) dX5_pack_180 (mh_16 hP) (by omega) (by decide)  (h' := mheap g P (su (su τ 15 k ((τ 15) k)) 16 k ((τ 16) k))) (mu_16 hP k ((τ 16) k)) ?_
                            have hB_32 : MB (su (su τ 15 k ((τ 15) k)) 16 k ((τ 16) k)) := mb_su hB_29 (show (0 : Int) ≤ (τ 16) k ∧ (τ 16) k ≤ (19 : Int) from by omega)
                            refine v_iinc F (pc := 181) (lo' := [some (.ref (P 0)), some (.int (iI (m_nx τ))), some (.int (iI ((sm (m_mv τ) k) + 1))), some (.int (iI (k + 1)))]) dX5_pack_181 rfl (Nat.le_of_ble_eq_true rfl) rfl ?_
                            refine v_goto F (pc := 184) 83 dX5_pack_184 (by decide) ?_
                            have bt := mb_nm hBt
                            have e_ : sm (m_mv τ) (k + 1) = (sm (m_mv τ) k) + 1 := by rw [sm_s _ hk0]; exact congrArg (fun z => sm (m_mv τ) k + z) (show m_mv τ k = 1 by simp only [m_mv]; split <;> first | rfl | omega)
                            have ih2 := ih (k + 1) (by omega) (by omega) (by omega)
                            rw [e_] at ih2
                            rw [su_self, su_self]
                            exact ih2
              exact LP83 _ 0 (Int.le_refl 0) (by omega) (Nat.lt_succ_self _)
            · have n1 := c_5
              refine v_aload_n F (pc := 62) dX5_pack_62 rfl ?_
              refine v_iload_n F (pc := 63) dX5_pack_63 rfl ?_
              have t_ := k_X5_puts l g hP hBt (m_nx τ) (by omega)
              have mp_ := m_put_mb hBt (m_nx τ)
              have pr_ := m_pr_rng hBt (m_nx τ)
              by_cases hq : m_pr τ (m_nx τ) = -1
              · rw [m_put_none hq, hq] at t_
                refine v_callVp F (pc := 64) (As := [.int (iI (m_nx τ))]) (rest := []) (h1 := mheap g P τ) ci_X5_121 ct_X5_puts cs_X5_puts t_ dX5_pack_64 (k0 := 8) rfl rfl (mh_0 hP) rfl rfl (Nat.le_of_ble_eq_true rfl) (Nat.le_of_ble_eq_true rfl) (Nat.le_of_ble_eq_true rfl) (Nat.le_of_ble_eq_true rfl) (Nat.le_of_ble_eq_true rfl) ?_ (fun _ _ z => z.elim)
                refine v_iconst F (pc := 67) dX5_pack_67 ?_
                refine v_icmp_eq F (pc := 68) (a := -1) (b := -1) 79 dX5_pack_68 (by decide) (by omega) (by omega) (fun c_33 => ?_) (fun c_33 => ?_)
                · have hR : pk_R σ = (τ, m_nx τ) := by rw [← hW]; exact m_wh_stop (Or.inr hq)
                  refine v_iconst F (pc := 79) dX5_pack_79 ?_
                  refine v_istore_n F (pc := 80) (lo' := [some (.ref (P 0)), some (.int (iI (m_nx τ))), some (.int (iI (0))), none]) dX5_pack_80 (Nat.le_of_ble_eq_true rfl) rfl ?_
                  refine v_iconst F (pc := 81) dX5_pack_81 ?_
                  refine v_istore_n F (pc := 82) (lo' := [some (.ref (P 0)), some (.int (iI (m_nx τ))), some (.int (iI (0))), some (.int (iI (0)))]) dX5_pack_82 (Nat.le_of_ble_eq_true rfl) rfl ?_
                  have bt := mb_nm hBt
                  have LP83 : ∀ (N_ : Nat) (k : Int), (0 ≤ k) → (k ≤ τ 17 0) → ((τ 17 0) - k).toNat < N_ → VE pX l eX ({ frames := 6, cells := 0, slots := 0, locals := 143 }) sX mX ([.ref (P 0)] : List Value).toArray bX tX cX 4 g AX (mheap g P (m_p3 τ k)) 0 0 83 [some (.ref (P 0)), some (.int (iI (m_nx τ))), some (.int (iI (sm (m_mv τ) k))), some (.int (iI (k)))] [] (pV (some (.int (iI (pk_a σ)))) (mheap g P (pk_s σ))) (noX) 0 0 := by
                    intro N_
                    induction N_ with
                    | zero => intro k _ _ hm_; exact absurd hm_ (Nat.not_lt_zero _)
                    | succ N_ ih =>
                      intro k hk0 hk1 hm_
                      have hB3 := mb_p3 hBt k
                      have e15 := m_p3_15 τ k
                      have e16 := m_p3_16 τ k
                      have e19 : m_p3 τ k 19 k = τ 19 k := rfl
                      have e20 : m_p3 τ k 20 k = τ 20 k := rfl
                      refine v_iload_n F (pc := 83) dX5_pack_83 rfl ?_
                      refine v_aload_n F (pc := 84) dX5_pack_84 rfl ?_
                      refine v_getf F (pc := 85) fd_X5_73_8 (v := .int (iI (τ 17 0))) dX5_pack_85 (mh_0 hP) rfl ?_
                      have b_34 : (0 : Int) ≤ τ 17 0 ∧ τ 17 0 ≤ (60 : Int) := hB3 17 0 (by decide) (by decide)
                      refine v_icmp_ge F (pc := 88) (a := k) (b := τ 17 0) 187 dX5_pack_88 (by decide) (by omega) (by omega) (fun c_35 => ?_) (fun c_35 => ?_)
                      · refine v_iload_n F (pc := 187) dX5_pack_187 rfl ?_
                        refine v_iconst F (pc := 188) dX5_pack_188 ?_
                        refine v_icmp_ne F (pc := 189) (a := m_nx τ) (b := -1) 196 dX5_pack_189 (by decide) (by omega) (by omega) (fun c_36 => ?_) (fun c_36 => ?_)
                        · refine v_iconst F (pc := 196) dX5_pack_196 ?_
                          refine v_iret F (pc := 197) (z := (iI (-1))) dX5_pack_197 rfl rfl (Nat.le_of_ble_eq_true rfl) (Nat.le_of_ble_eq_true rfl) ?_
                          exact ⟨by rw [show pk_a σ = -1 from by unfold pk_a; rw [hR]; exact if_neg n1], by rw [show pk_s σ = m_p3 τ (τ 17 0) from by unfold pk_s; rw [hR]; exact if_neg n1, show k = τ 17 0 by omega]⟩
                        · exact absurd c_36 n1
                      · refine v_iload_n F (pc := 91) dX5_pack_91 rfl ?_
                        refine v_aload_n F (pc := 92) dX5_pack_92 rfl ?_
                        refine v_getf F (pc := 93) fd_X5_50_8 (v := .ref (P 15)) dX5_pack_93 (mh_0 hP) rfl ?_
                        refine v_iload_n F (pc := 96) dX5_pack_96 rfl ?_
                        refine v_iald F (pc := 97) (n := 60) (f := (m_p3 τ k) 15) (z := k) dX5_pack_97 (mh_15 hP) (by omega) (by decide) ?_
                        have b_37 : (-1 : Int) ≤ ((m_p3 τ k) 15) k ∧ ((m_p3 τ k) 15) k ≤ (7 : Int) := hB3 15 k (by omega) (show k < (60 : Int) by omega)
                        refine v_aload_n F (pc := 98) dX5_pack_98 rfl ?_
                        refine v_getf F (pc := 99) fd_X5_56_8 (v := .ref (P 19)) dX5_pack_99 (mh_0 hP) rfl ?_
                        refine v_iload_n F (pc := 102) dX5_pack_102 rfl ?_
                        refine v_iald F (pc := 103) (n := 60) (f := (m_p3 τ k) 19) (z := k) dX5_pack_103 (mh_19 hP) (by omega) (by decide) ?_
                        have b_38 : (-1 : Int) ≤ ((m_p3 τ k) 19) k ∧ ((m_p3 τ k) 19) k ≤ (7 : Int) := hB3 19 k (by omega) (show k < (60 : Int) by omega)
                        refine v_icmp_ne F (pc := 104) (a := ((m_p3 τ k) 15) k) (b := ((m_p3 τ k) 19) k) 122 dX5_pack_104 (by decide) (by omega) (by omega) (fun c_39 => ?_) (fun c_39 => ?_)
                        · refine v_iconst F (pc := 122) dX5_pack_122 ?_
                          refine v_goto F (pc := 123) 127 dX5_pack_123 (by decide) ?_
                          refine v_iadd F (pc := 127) (a := sm (m_mv τ) k) (b := 1) dX5_pack_127 ?_
                          refine v_istore_n F (pc := 128) (lo' := [some (.ref (P 0)), some (.int (iI (m_nx τ))), some (.int (iI ((sm (m_mv τ) k) + 1))), some (.int (iI (k)))]) dX5_pack_128 (Nat.le_of_ble_eq_true rfl) rfl ?_
                          refine v_aload_n F (pc := 129) dX5_pack_129 rfl ?_
                          refine v_getf F (pc := 130) fd_X5_50_8 (v := .ref (P 15)) dX5_pack_130 (mh_0 hP) rfl ?_
                          refine v_iload_n F (pc := 133) dX5_pack_133 rfl ?_
                          refine v_iload_n F (pc := 134) dX5_pack_134 rfl ?_
                          refine v_iconst F (pc := 135) dX5_pack_135 ?_
                          refine v_icmp_ne F (pc := 136) (a := m_nx τ) (b := -1) 148 dX5_pack_136 (by decide) (by omega) (by omega) (fun c_40 => ?_) (fun c_40 => ?_)
                          · refine v_aload_n F (pc := 148) dX5_pack_148 rfl ?_
                            refine v_getf F (pc := 149) fd_X5_56_8 (v := .ref (P 19)) dX5_pack_149 (mh_0 hP) rfl ?_
                            refine v_iload_n F (pc := 152) dX5_pack_152 rfl ?_
                            refine v_iald F (pc := 153) (n := 60) (f := (m_p3 τ k) 19) (z := k) dX5_pack_153 (mh_19 hP) (by omega) (by decide) ?_
                            have b_41 : (-1 : Int) ≤ ((m_p3 τ k) 19) k ∧ ((m_p3 τ k) 19) k ≤ (7 : Int) := hB3 19 k (by omega) (show k < (60 : Int) by omega)
                            refine v_iast F (pc := 154) (n := 60) (f := (m_p3 τ k) 15) (z := k) (x := ((m_p3 τ k) 19) k) dX5_pack_154 (mh_15 hP) (by omega) (by decide)  (h' := mheap g P (su (m_p3 τ k) 15 k (((m_p3 τ k) 19) k))) (mu_15 hP k (((m_p3 τ k) 19) k)) ?_
                            have hB_42 : MB (su (m_p3 τ k) 15 k (((m_p3 τ k) 19) k)) := mb_su hB3 (show (-1 : Int) ≤ ((m_p3 τ k) 19) k ∧ ((m_p3 τ k) 19) k ≤ (7 : Int) from by omega)
                            refine v_aload_n F (pc := 155) dX5_pack_155 rfl ?_
                            refine v_getf F (pc := 156) fd_X5_53_8 (v := .ref (P 16)) dX5_pack_156 (mh_0 hP) rfl ?_
                            refine v_iload_n F (pc := 159) dX5_pack_159 rfl ?_
                            refine v_iload_n F (pc := 160) dX5_pack_160 rfl ?_
                            refine v_iconst F (pc := 161) dX5_pack_161 ?_
                            refine v_icmp_ne F (pc := 162) (a := m_nx τ) (b := -1) 174 dX5_pack_162 (by decide) (by omega) (by omega) (fun c_43 => ?_) (fun c_43 => ?_)
                            · refine v_aload_n F (pc := 174) dX5_pack_174 rfl ?_
                              refine v_getf F (pc := 175) fd_X5_59_8 (v := .ref (P 20)) dX5_pack_175 (mh_0 hP) rfl ?_
                              refine v_iload_n F (pc := 178) dX5_pack_178 rfl ?_
                              refine v_iald F (pc := 179) (n := 60) (f := (m_p3 τ k) 20) (z := k) dX5_pack_179 (mh_20 hP) (by omega) (by decide) ?_
                              have b_44 : (0 : Int) ≤ ((m_p3 τ k) 20) k ∧ ((m_p3 τ k) 20) k ≤ (19 : Int) := hB_42 20 k (by omega) (show k < (60 : Int) by omega)
                              refine v_iast F (pc := 180) (n := 60) (f := (m_p3 τ k) 16) (z := k) (x := ((m_p3 τ k) 20) k) dX5_pack_180 (mh_16 hP) (by omega) (by decide)  (h' := mheap g P (su (su (m_p3 τ k) 15 k (((m_p3 τ k) 19) k)) 16 k (((m_p3 τ k) 20) k))) (mu_16 hP k (((m_p3 τ k) 20) k)) ?_
                              have hB_45 : MB (su (su (m_p3 τ k) 15 k (((m_p3 τ k) 19) k)) 16 k (((m_p3 τ k) 20) k)) := mb_su hB_42 (show (0 : Int) ≤ ((m_p3 τ k) 20) k ∧ ((m_p3 τ k) 20) k ≤ (19 : Int) from by omega)
                              refine v_iinc F (pc := 181) (lo' := [some (.ref (P 0)), some (.int (iI (m_nx τ))), some (.int (iI ((sm (m_mv τ) k) + 1))), some (.int (iI (k + 1)))]) dX5_pack_181 rfl (Nat.le_of_ble_eq_true rfl) rfl ?_
                              refine v_goto F (pc := 184) 83 dX5_pack_184 (by decide) ?_
                              have bt := mb_nm hBt
                              have e_ : sm (m_mv τ) (k + 1) = (sm (m_mv τ) k) + 1 := by rw [sm_s _ hk0]; exact congrArg (fun z => sm (m_mv τ) k + z) (show m_mv τ k = 1 by simp only [m_mv]; split <;> first | rfl | omega)
                              have ih2 := ih (k + 1) (by omega) (by omega) (by omega)
                              rw [e_] at ih2
                              rw [← m_p3_s hk0] at ih2
                              exact ih2
                            · exact absurd c_43 n1
                          · exact absurd c_40 n1
                        · refine v_aload_n F (pc := 107) dX5_pack_107 rfl ?_
                          refine v_getf F (pc := 108) fd_X5_53_8 (v := .ref (P 16)) dX5_pack_108 (mh_0 hP) rfl ?_
                          refine v_iload_n F (pc := 111) dX5_pack_111 rfl ?_
                          refine v_iald F (pc := 112) (n := 60) (f := (m_p3 τ k) 16) (z := k) dX5_pack_112 (mh_16 hP) (by omega) (by decide) ?_
                          have b_46 : (0 : Int) ≤ ((m_p3 τ k) 16) k ∧ ((m_p3 τ k) 16) k ≤ (19 : Int) := hB3 16 k (by omega) (show k < (60 : Int) by omega)
                          refine v_aload_n F (pc := 113) dX5_pack_113 rfl ?_
                          refine v_getf F (pc := 114) fd_X5_59_8 (v := .ref (P 20)) dX5_pack_114 (mh_0 hP) rfl ?_
                          refine v_iload_n F (pc := 117) dX5_pack_117 rfl ?_
                          refine v_iald F (pc := 118) (n := 60) (f := (m_p3 τ k) 20) (z := k) dX5_pack_118 (mh_20 hP) (by omega) (by decide) ?_
                          have b_47 : (0 : Int) ≤ ((m_p3 τ k) 20) k ∧ ((m_p3 τ k) 20) k ≤ (19 : Int) := hB3 20 k (by omega) (show k < (60 : Int) by omega)
                          refine v_icmp_eq F (pc := 119) (a := ((m_p3 τ k) 16) k) (b := ((m_p3 τ k) 20) k) 126 dX5_pack_119 (by decide) (by omega) (by omega) (fun c_48 => ?_) (fun c_48 => ?_)
                          · refine v_iconst F (pc := 126) dX5_pack_126 ?_
                            refine v_iadd F (pc := 127) (a := sm (m_mv τ) k) (b := 0) dX5_pack_127 ?_
                            refine v_istore_n F (pc := 128) (lo' := [some (.ref (P 0)), some (.int (iI (m_nx τ))), some (.int (iI ((sm (m_mv τ) k) + 0))), some (.int (iI (k)))]) dX5_pack_128 (Nat.le_of_ble_eq_true rfl) rfl ?_
                            refine v_aload_n F (pc := 129) dX5_pack_129 rfl ?_
                            refine v_getf F (pc := 130) fd_X5_50_8 (v := .ref (P 15)) dX5_pack_130 (mh_0 hP) rfl ?_
                            refine v_iload_n F (pc := 133) dX5_pack_133 rfl ?_
                            refine v_iload_n F (pc := 134) dX5_pack_134 rfl ?_
                            refine v_iconst F (pc := 135) dX5_pack_135 ?_
                            refine v_icmp_ne F (pc := 136) (a := m_nx τ) (b := -1) 148 dX5_pack_136 (by decide) (by omega) (by omega) (fun c_49 => ?_) (fun c_49 => ?_)
                            · refine v_aload_n F (pc := 148) dX5_pack_148 rfl ?_
                              refine v_getf F (pc := 149) fd_X5_56_8 (v := .ref (P 19)) dX5_pack_149 (mh_0 hP) rfl ?_
                              refine v_iload_n F (pc := 152) dX5_pack_152 rfl ?_
                              refine v_iald F (pc := 153) (n := 60) (f := (m_p3 τ k) 19) (z := k) dX5_pack_153 (mh_19 hP) (by omega) (by decide) ?_
                              have b_50 : (-1 : Int) ≤ ((m_p3 τ k) 19) k ∧ ((m_p3 τ k) 19) k ≤ (7 : Int) := hB3 19 k (by omega) (show k < (60 : Int) by omega)
                              refine v_iast F (pc := 154) (n := 60) (f := (m_p3 τ k) 15) (z := k) (x := ((m_p3 τ k) 19) k) dX5_pack_154 (mh_15 hP) (by omega) (by decide)  (h' := mheap g P (su (m_p3 τ k) 15 k (((m_p3 τ k) 19) k))) (mu_15 hP k (((m_p3 τ k) 19) k)) ?_
                              have hB_51 : MB (su (m_p3 τ k) 15 k (((m_p3 τ k) 19) k)) := mb_su hB3 (show (-1 : Int) ≤ ((m_p3 τ k) 19) k ∧ ((m_p3 τ k) 19) k ≤ (7 : Int) from by omega)
                              refine v_aload_n F (pc := 155) dX5_pack_155 rfl ?_
                              refine v_getf F (pc := 156) fd_X5_53_8 (v := .ref (P 16)) dX5_pack_156 (mh_0 hP) rfl ?_
                              refine v_iload_n F (pc := 159) dX5_pack_159 rfl ?_
                              refine v_iload_n F (pc := 160) dX5_pack_160 rfl ?_
                              refine v_iconst F (pc := 161) dX5_pack_161 ?_
                              refine v_icmp_ne F (pc := 162) (a := m_nx τ) (b := -1) 174 dX5_pack_162 (by decide) (by omega) (by omega) (fun c_52 => ?_) (fun c_52 => ?_)
                              · refine v_aload_n F (pc := 174) dX5_pack_174 rfl ?_
                                refine v_getf F (pc := 175) fd_X5_59_8 (v := .ref (P 20)) dX5_pack_175 (mh_0 hP) rfl ?_
                                refine v_iload_n F (pc := 178) dX5_pack_178 rfl ?_
                                refine v_iald F (pc := 179) (n := 60) (f := (m_p3 τ k) 20) (z := k) dX5_pack_179 (mh_20 hP) (by omega) (by decide) ?_
                                have b_53 : (0 : Int) ≤ ((m_p3 τ k) 20) k ∧ ((m_p3 τ k) 20) k ≤ (19 : Int) := hB_51 20 k (by omega) (show k < (60 : Int) by omega)
                                refine v_iast F (pc := 180) (n := 60) (f := (m_p3 τ k) 16) (z := k) (x := ((m_p3 τ k) 20) k) dX5_pack_180 (mh_16 hP) (by omega) (by decide)  (h' := mheap g P (su (su (m_p3 τ k) 15 k (((m_p3 τ k) 19) k)) 16 k (((m_p3 τ k) 20) k))) (mu_16 hP k (((m_p3 τ k) 20) k)) ?_
                                have hB_54 : MB (su (su (m_p3 τ k) 15 k (((m_p3 τ k) 19) k)) 16 k (((m_p3 τ k) 20) k)) := mb_su hB_51 (show (0 : Int) ≤ ((m_p3 τ k) 20) k ∧ ((m_p3 τ k) 20) k ≤ (19 : Int) from by omega)
                                refine v_iinc F (pc := 181) (lo' := [some (.ref (P 0)), some (.int (iI (m_nx τ))), some (.int (iI ((sm (m_mv τ) k) + 0))), some (.int (iI (k + 1)))]) dX5_pack_181 rfl (Nat.le_of_ble_eq_true rfl) rfl ?_
                                refine v_goto F (pc := 184) 83 dX5_pack_184 (by decide) ?_
                                have bt := mb_nm hBt
                                have e_ : sm (m_mv τ) (k + 1) = (sm (m_mv τ) k) + 0 := by rw [sm_s _ hk0]; exact congrArg (fun z => sm (m_mv τ) k + z) (show m_mv τ k = 0 by simp only [m_mv]; split <;> first | rfl | omega)
                                have ih2 := ih (k + 1) (by omega) (by omega) (by omega)
                                rw [e_] at ih2
                                rw [← m_p3_s hk0] at ih2
                                exact ih2
                              · exact absurd c_52 n1
                            · exact absurd c_49 n1
                          · refine v_iconst F (pc := 122) dX5_pack_122 ?_
                            refine v_goto F (pc := 123) 127 dX5_pack_123 (by decide) ?_
                            refine v_iadd F (pc := 127) (a := sm (m_mv τ) k) (b := 1) dX5_pack_127 ?_
                            refine v_istore_n F (pc := 128) (lo' := [some (.ref (P 0)), some (.int (iI (m_nx τ))), some (.int (iI ((sm (m_mv τ) k) + 1))), some (.int (iI (k)))]) dX5_pack_128 (Nat.le_of_ble_eq_true rfl) rfl ?_
                            refine v_aload_n F (pc := 129) dX5_pack_129 rfl ?_
                            refine v_getf F (pc := 130) fd_X5_50_8 (v := .ref (P 15)) dX5_pack_130 (mh_0 hP) rfl ?_
                            refine v_iload_n F (pc := 133) dX5_pack_133 rfl ?_
                            refine v_iload_n F (pc := 134) dX5_pack_134 rfl ?_
                            refine v_iconst F (pc := 135) dX5_pack_135 ?_
                            refine v_icmp_ne F (pc := 136) (a := m_nx τ) (b := -1) 148 dX5_pack_136 (by decide) (by omega) (by omega) (fun c_55 => ?_) (fun c_55 => ?_)
                            · refine v_aload_n F (pc := 148) dX5_pack_148 rfl ?_
                              refine v_getf F (pc := 149) fd_X5_56_8 (v := .ref (P 19)) dX5_pack_149 (mh_0 hP) rfl ?_
                              refine v_iload_n F (pc := 152) dX5_pack_152 rfl ?_
                              refine v_iald F (pc := 153) (n := 60) (f := (m_p3 τ k) 19) (z := k) dX5_pack_153 (mh_19 hP) (by omega) (by decide) ?_
                              have b_56 : (-1 : Int) ≤ ((m_p3 τ k) 19) k ∧ ((m_p3 τ k) 19) k ≤ (7 : Int) := hB3 19 k (by omega) (show k < (60 : Int) by omega)
                              refine v_iast F (pc := 154) (n := 60) (f := (m_p3 τ k) 15) (z := k) (x := ((m_p3 τ k) 19) k) dX5_pack_154 (mh_15 hP) (by omega) (by decide)  (h' := mheap g P (su (m_p3 τ k) 15 k (((m_p3 τ k) 19) k))) (mu_15 hP k (((m_p3 τ k) 19) k)) ?_
                              have hB_57 : MB (su (m_p3 τ k) 15 k (((m_p3 τ k) 19) k)) := mb_su hB3 (show (-1 : Int) ≤ ((m_p3 τ k) 19) k ∧ ((m_p3 τ k) 19) k ≤ (7 : Int) from by omega)
                              refine v_aload_n F (pc := 155) dX5_pack_155 rfl ?_
                              refine v_getf F (pc := 156) fd_X5_53_8 (v := .ref (P 16)) dX5_pack_156 (mh_0 hP) rfl ?_
                              refine v_iload_n F (pc := 159) dX5_pack_159 rfl ?_
                              refine v_iload_n F (pc := 160) dX5_pack_160 rfl ?_
                              refine v_iconst F (pc := 161) dX5_pack_161 ?_
                              refine v_icmp_ne F (pc := 162) (a := m_nx τ) (b := -1) 174 dX5_pack_162 (by decide) (by omega) (by omega) (fun c_58 => ?_) (fun c_58 => ?_)
                              · refine v_aload_n F (pc := 174) dX5_pack_174 rfl ?_
                                refine v_getf F (pc := 175) fd_X5_59_8 (v := .ref (P 20)) dX5_pack_175 (mh_0 hP) rfl ?_
                                refine v_iload_n F (pc := 178) dX5_pack_178 rfl ?_
                                refine v_iald F (pc := 179) (n := 60) (f := (m_p3 τ k) 20) (z := k) dX5_pack_179 (mh_20 hP) (by omega) (by decide) ?_
                                have b_59 : (0 : Int) ≤ ((m_p3 τ k) 20) k ∧ ((m_p3 τ k) 20) k ≤ (19 : Int) := hB_57 20 k (by omega) (show k < (60 : Int) by omega)
                                refine v_iast F (pc := 180) (n := 60) (f := (m_p3 τ k) 16) (z := k) (x := ((m_p3 τ k) 20) k) dX5_pack_180 (mh_16 hP) (by omega) (by decide)  (h' := mheap g P (su (su (m_p3 τ k) 15 k (((m_p3 τ k) 19) k)) 16 k (((m_p3 τ k) 20) k))) (mu_16 hP k (((m_p3 τ k) 20) k)) ?_
                                have hB_60 : MB (su (su (m_p3 τ k) 15 k (((m_p3 τ k) 19) k)) 16 k (((m_p3 τ k) 20) k)) := mb_su hB_57 (show (0 : Int) ≤ ((m_p3 τ k) 20) k ∧ ((m_p3 τ k) 20) k ≤ (19 : Int) from by omega)
                                refine v_iinc F (pc := 181) (lo' := [some (.ref (P 0)), some (.int (iI (m_nx τ))), some (.int (iI ((sm (m_mv τ) k) + 1))), some (.int (iI (k + 1)))]) dX5_pack_181 rfl (Nat.le_of_ble_eq_true rfl) rfl ?_
                                refine v_goto F (pc := 184) 83 dX5_pack_184 (by decide) ?_
                                have bt := mb_nm hBt
                                have e_ : sm (m_mv τ) (k + 1) = (sm (m_mv τ) k) + 1 := by rw [sm_s _ hk0]; exact congrArg (fun z => sm (m_mv τ) k + z) (show m_mv τ k = 1 by simp only [m_mv]; split <;> first | rfl | omega)
                                have ih2 := ih (k + 1) (by omega) (by omega) (by omega)
                                rw [e_] at ih2
                                rw [← m_p3_s hk0] at ih2
                                exact ih2
                              · exact absurd c_58 n1
                            · exact absurd c_55 n1
                  have t_ := LP83 _ 0 (Int.le_refl 0) (by omega) (Nat.lt_succ_self _)
                  rw [m_p3_0] at t_
                  exact t_
                · exact absurd c_33 (by decide)
              · refine v_callVp F (pc := 64) (As := [.int (iI (m_nx τ))]) (rest := []) (h1 := mheap g P (m_put τ (m_nx τ))) ci_X5_121 ct_X5_puts cs_X5_puts t_ dX5_pack_64 (k0 := 8) rfl rfl (mh_0 hP) rfl rfl (Nat.le_of_ble_eq_true rfl) (Nat.le_of_ble_eq_true rfl) (Nat.le_of_ble_eq_true rfl) (Nat.le_of_ble_eq_true rfl) (Nat.le_of_ble_eq_true rfl) ?_ (fun _ _ z => z.elim)
                refine v_iconst F (pc := 67) dX5_pack_67 ?_
                refine v_icmp_eq F (pc := 68) (a := m_pr τ (m_nx τ)) (b := -1) 79 dX5_pack_68 (by decide) (by omega) (by omega) (fun c_61 => ?_) (fun c_61 => ?_)
                · exact absurd c_61 hq
                · refine v_aload_n F (pc := 71) dX5_pack_71 rfl ?_
                  refine v_callVp F (pc := 72) (As := []) (rest := []) ci_X5_130 ct_X5_nextToPack cs_X5_nextToPack (k_X5_nextToPack l g hP mp_) dX5_pack_72 (k0 := 8) rfl rfl (mh_0 hP) rfl rfl (Nat.le_of_ble_eq_true rfl) (Nat.le_of_ble_eq_true rfl) (Nat.le_of_ble_eq_true rfl) (Nat.le_of_ble_eq_true rfl) (Nat.le_of_ble_eq_true rfl) ?_ (fun _ _ z => z.elim)
                  have rg_62 := m_nx_rng mp_
                  refine v_istore_n F (pc := 75) (lo' := [some (.ref (P 0)), some (.int (iI (m_nx (m_put τ (m_nx τ))))), none, none]) dX5_pack_75 (Nat.le_of_ble_eq_true rfl) rfl ?_
                  refine v_goto F (pc := 76) 57 dX5_pack_76 (by decide) ?_
                  exact V.fg (ih (m_put τ (m_nx τ)) mp_ (by rw [← hW, m_wh_step hBt n1 hq]) (by have q1 := m_cnt_put hBt n1 hq; have q2 := m_cnt_nn mp_; omega)) ⟨rfl, ⟨rfl, trivial⟩⟩
        exact V.fg (LP57 _ (m_p1 (su σ 0 0 0) (σ 17 0)) hBz rfl (Nat.lt_succ_self _)) ⟨rfl, ⟨rfl, trivial⟩⟩
      · refine v_aload_n F (pc := 15) dX5_pack_15 rfl ?_
        refine v_getf F (pc := 16) fd_X5_56_8 (v := .ref (P 19)) dX5_pack_16 (mh_0 hP) rfl ?_
        refine v_iload_n F (pc := 19) dX5_pack_19 rfl ?_
        refine v_aload_n F (pc := 20) dX5_pack_20 rfl ?_
        refine v_getf F (pc := 21) fd_X5_50_8 (v := .ref (P 15)) dX5_pack_21 (mh_0 hP) rfl ?_
        refine v_iload_n F (pc := 24) dX5_pack_24 rfl ?_
        refine v_iald F (pc := 25) (n := 60) (f := (m_p1 (su σ 0 0 0) k) 15) (z := k) dX5_pack_25 (mh_15 hP) (by omega) (by decide) ?_
        have b_63 : (-1 : Int) ≤ ((m_p1 (su σ 0 0 0) k) 15) k ∧ ((m_p1 (su σ 0 0 0) k) 15) k ≤ (7 : Int) := hBk 15 k (by omega) (show k < (60 : Int) by omega)
        refine v_iast F (pc := 26) (n := 60) (f := (m_p1 (su σ 0 0 0) k) 19) (z := k) (x := ((m_p1 (su σ 0 0 0) k) 15) k) dX5_pack_26 (mh_19 hP) (by omega) (by decide)  (h' := mheap g P (su (m_p1 (su σ 0 0 0) k) 19 k (((m_p1 (su σ 0 0 0) k) 15) k))) (mu_19 hP k (((m_p1 (su σ 0 0 0) k) 15) k)) ?_
        have hB_64 : MB (su (m_p1 (su σ 0 0 0) k) 19 k (((m_p1 (su σ 0 0 0) k) 15) k)) := mb_su hBk (show (-1 : Int) ≤ ((m_p1 (su σ 0 0 0) k) 15) k ∧ ((m_p1 (su σ 0 0 0) k) 15) k ≤ (7 : Int) from by omega)
        refine v_aload_n F (pc := 27) dX5_pack_27 rfl ?_
        refine v_getf F (pc := 28) fd_X5_59_8 (v := .ref (P 20)) dX5_pack_28 (mh_0 hP) rfl ?_
        refine v_iload_n F (pc := 31) dX5_pack_31 rfl ?_
        refine v_aload_n F (pc := 32) dX5_pack_32 rfl ?_
        refine v_getf F (pc := 33) fd_X5_53_8 (v := .ref (P 16)) dX5_pack_33 (mh_0 hP) rfl ?_
        refine v_iload_n F (pc := 36) dX5_pack_36 rfl ?_
        refine v_iald F (pc := 37) (n := 60) (f := (m_p1 (su σ 0 0 0) k) 16) (z := k) dX5_pack_37 (mh_16 hP) (by omega) (by decide) ?_
        have b_65 : (0 : Int) ≤ ((m_p1 (su σ 0 0 0) k) 16) k ∧ ((m_p1 (su σ 0 0 0) k) 16) k ≤ (19 : Int) := hB_64 16 k (by omega) (show k < (60 : Int) by omega)
        refine v_iast F (pc := 38) (n := 60) (f := (m_p1 (su σ 0 0 0) k) 20) (z := k) (x := ((m_p1 (su σ 0 0 0) k) 16) k) dX5_pack_38 (mh_20 hP) (by omega) (by decide)  (h' := mheap g P (su (su (m_p1 (su σ 0 0 0) k) 19 k (((m_p1 (su σ 0 0 0) k) 15) k)) 20 k (((m_p1 (su σ 0 0 0) k) 16) k))) (mu_20 hP k (((m_p1 (su σ 0 0 0) k) 16) k)) ?_
        have hB_66 : MB (su (su (m_p1 (su σ 0 0 0) k) 19 k (((m_p1 (su σ 0 0 0) k) 15) k)) 20 k (((m_p1 (su σ 0 0 0) k) 16) k)) := mb_su hB_64 (show (0 : Int) ≤ ((m_p1 (su σ 0 0 0) k) 16) k ∧ ((m_p1 (su σ 0 0 0) k) 16) k ≤ (19 : Int) from by omega)
        refine v_aload_n F (pc := 39) dX5_pack_39 rfl ?_
        refine v_getf F (pc := 40) fd_X5_50_8 (v := .ref (P 15)) dX5_pack_40 (mh_0 hP) rfl ?_
        refine v_iload_n F (pc := 43) dX5_pack_43 rfl ?_
        refine v_iconst F (pc := 44) dX5_pack_44 ?_
        refine v_iast F (pc := 45) (n := 60) (f := (m_p1 (su σ 0 0 0) k) 15) (z := k) (x := -1) dX5_pack_45 (mh_15 hP) (by omega) (by decide)  (h' := mheap g P (su (su (su (m_p1 (su σ 0 0 0) k) 19 k (((m_p1 (su σ 0 0 0) k) 15) k)) 20 k (((m_p1 (su σ 0 0 0) k) 16) k)) 15 k (-1))) (mu_15 hP k (-1)) ?_
        have hB_67 : MB (su (su (su (m_p1 (su σ 0 0 0) k) 19 k (((m_p1 (su σ 0 0 0) k) 15) k)) 20 k (((m_p1 (su σ 0 0 0) k) 16) k)) 15 k (-1)) := mb_su hB_66 (show (-1 : Int) ≤ -1 ∧ -1 ≤ (7 : Int) from by omega)
        refine v_iinc F (pc := 46) (lo' := [some (.ref (P 0)), some (.int (iI (k + 1))), none, none]) dX5_pack_46 rfl (Nat.le_of_ble_eq_true rfl) rfl ?_
        refine v_goto F (pc := 49) 7 dX5_pack_49 (by decide) ?_
        have ih2 := ih (k + 1) (by omega) (by omega) (by omega)
        rw [← m_p1_s hk0] at ih2
        exact V.fg (ih2) ⟨rfl, ⟨rfl, trivial⟩⟩
  have t_ := LP7 _ 0 (Int.le_refl 0) (by omega) (Nat.lt_succ_self _)
  rw [m_p1_0] at t_
  exact V.fg (t_) ⟨rfl, ⟨rfl, trivial⟩⟩
