-- X1_leadTo
set_option maxRecDepth 100000 in
set_option maxHeartbeats 8000000 in
theorem k_X1_leadTo (l : Launch) (g : gT) {h : fH} (f c : Int) (hf : -2147483648 ≤ f ∧ f ≤ 2147483647) (hc : -2147483648 ≤ c ∧ c ≤ 2147483647) : CM l g yX1_leadTo cX1_leadTo 2 (some .boolean) ({ frames := 1, cells := 0, slots := 0, locals := 20 }) [.int (iI (f)), .int (iI (c))] (h) (pV (some (.int (iI (bI (cdd c f))))) h) (noX) := by
  refine CM.of (lo := [some (.int (iI (f))), some (.int (iI (c)))]) (by decide) (Nat.le_of_ble_eq_true rfl) (by simp [Value.category]) rfl ?_
  intro pX eX sX mX bX tX cX AX F htab hmn
  have F : Fx pX l sX mX ([.int (iI (f)), .int (iI (c))] : List Value).toArray tX cX cX1_leadTo 2 (some .boolean) RX1 g AX := F
  refine v_iload_n F (pc := 0) dX1_leadTo_0 rfl ?_
  refine v_iload_n F (pc := 1) dX1_leadTo_1 rfl ?_
  refine v_icmp_eq F (pc := 2) (a := c) (b := f) 10 dX1_leadTo_2 (by decide) (by omega) (by omega) (fun c_1 => ?_) (fun c_1 => ?_)
  · refine v_iconst F (pc := 10) dX1_leadTo_10 ?_
    refine v_goto F (pc := 11) 15 dX1_leadTo_11 (by decide) ?_
    refine v_iret F (pc := 15) (z := (iI (1))) dX1_leadTo_15 rfl (by first | rfl | exact nar_bI _ | decide) (Nat.le_of_ble_eq_true rfl) (Nat.le_of_ble_eq_true rfl) ?_
    exact ⟨congrArg (fun z => some (Value.int (iI z))) (show (1 : Int) = bI (cdd c f) by simp only [cdd, bI, Bool.and_eq_true, Bool.or_eq_true, Bool.not_eq_true, decide_eq_true_eq, decide_eq_false_iff_not, decide_not]; split <;> first | omega | simp_all), rfl⟩
  · refine v_iload_n F (pc := 5) dX1_leadTo_5 rfl ?_
    refine v_iconst F (pc := 6) dX1_leadTo_6 ?_
    refine v_icmp_ne F (pc := 7) (a := c) (b := 2) 14 dX1_leadTo_7 (by decide) (by omega) (by omega) (fun c_2 => ?_) (fun c_2 => ?_)
    · refine v_iconst F (pc := 14) dX1_leadTo_14 ?_
      refine v_iret F (pc := 15) (z := (iI (0))) dX1_leadTo_15 rfl (by first | rfl | exact nar_bI _ | decide) (Nat.le_of_ble_eq_true rfl) (Nat.le_of_ble_eq_true rfl) ?_
      exact ⟨congrArg (fun z => some (Value.int (iI z))) (show (0 : Int) = bI (cdd c f) by simp only [cdd, bI, Bool.and_eq_true, Bool.or_eq_true, Bool.not_eq_true, decide_eq_true_eq, decide_eq_false_iff_not, decide_not]; split <;> first | omega | simp_all), rfl⟩
    · refine v_iconst F (pc := 10) dX1_leadTo_10 ?_
      refine v_goto F (pc := 11) 15 dX1_leadTo_11 (by decide) ?_
      refine v_iret F (pc := 15) (z := (iI (1))) dX1_leadTo_15 rfl (by first | rfl | exact nar_bI _ | decide) (Nat.le_of_ble_eq_true rfl) (Nat.le_of_ble_eq_true rfl) ?_
      exact ⟨congrArg (fun z => some (Value.int (iI z))) (show (1 : Int) = bI (cdd c f) by simp only [cdd, bI, Bool.and_eq_true, Bool.or_eq_true, Bool.not_eq_true, decide_eq_true_eq, decide_eq_false_iff_not, decide_not]; split <;> first | omega | simp_all), rfl⟩
-- X4_rackOfCell
set_option maxRecDepth 100000 in
set_option maxHeartbeats 8000000 in
theorem k_X4_rackOfCell (l : Launch) (g : gT) {h : fH} (c : Int) (hc : 0 ≤ c ∧ c ≤ 2147483647) : CM l g yX4_rackOfCell cX4_rackOfCell 1 (some .int) ({ frames := 1, cells := 0, slots := 0, locals := 20 }) [.int (iI (c))] (h) (pV (some (.int (iI (c / 20)))) h) (noX) := by
  refine CM.of (lo := [some (.int (iI (c)))]) (by decide) (Nat.le_of_ble_eq_true rfl) (by simp [Value.category]) rfl ?_
  intro pX eX sX mX bX tX cX AX F htab hmn
  have F : Fx pX l sX mX ([.int (iI (c))] : List Value).toArray tX cX cX4_rackOfCell 1 (some .int) RX4 g AX := F
  refine v_iload_n F (pc := 0) dX4_rackOfCell_0 rfl ?_
  refine v_bipush F (pc := 1) dX4_rackOfCell_1 (by decide) ?_
  refine v_idiv F (pc := 3) (a := c) (b := 20) dX4_rackOfCell_3 (by omega) (by omega) ?_
  refine v_iret F (pc := 4) (z := (iI (c / 20))) dX4_rackOfCell_4 rfl rfl (Nat.le_of_ble_eq_true rfl) (Nat.le_of_ble_eq_true rfl) ?_
  exact ⟨rfl, rfl⟩
-- X4_cellAt
set_option maxRecDepth 100000 in
set_option maxHeartbeats 8000000 in
theorem k_X4_cellAt (l : Launch) (g : gT) {h : fH} (k s : Int) : CM l g yX4_cellAt cX4_cellAt 2 (some .int) ({ frames := 1, cells := 0, slots := 0, locals := 20 }) [.int (iI (k)), .int (iI (s))] (h) (pV (some (.int (iI (k * 20 + s)))) h) (noX) := by
  refine CM.of (lo := [some (.int (iI (k))), some (.int (iI (s)))]) (by decide) (Nat.le_of_ble_eq_true rfl) (by simp [Value.category]) rfl ?_
  intro pX eX sX mX bX tX cX AX F htab hmn
  have F : Fx pX l sX mX ([.int (iI (k)), .int (iI (s))] : List Value).toArray tX cX cX4_cellAt 2 (some .int) RX4 g AX := F
  refine v_iload_n F (pc := 0) dX4_cellAt_0 rfl ?_
  refine v_bipush F (pc := 1) dX4_cellAt_1 (by decide) ?_
  refine v_imul F (pc := 3) (a := k) (b := 20) dX4_cellAt_3 ?_
  refine v_iload_n F (pc := 4) dX4_cellAt_4 rfl ?_
  refine v_iadd F (pc := 5) (a := k * 20) (b := s) dX4_cellAt_5 ?_
  refine v_iret F (pc := 6) (z := (iI ((k * 20) + s))) dX4_cellAt_6 rfl rfl (Nat.le_of_ble_eq_true rfl) (Nat.le_of_ble_eq_true rfl) ?_
  exact ⟨rfl, rfl⟩
-- X4_atMost
set_option maxRecDepth 100000 in
set_option maxHeartbeats 8000000 in
theorem k_X4_atMost (l : Launch) (g : gT) {h : fH} (a q u : Int) (ha : 0 ≤ a ∧ a ≤ 1000000) (hq : 0 ≤ q ∧ q ≤ 100000000) (hu : 0 ≤ u ∧ u ≤ 1000000) : CM l g yX4_atMost cX4_atMost 3 (some .int) ({ frames := 2, cells := 0, slots := 0, locals := 30 }) [.int (iI (a)), .int (iI (q)), .int (iI (u))] (h) (pV (some (.int (iI (cAM a q u)))) h) (noX) := by
  refine CM.of (lo := [some (.int (iI (a))), some (.int (iI (q))), some (.int (iI (u)))]) (by decide) (Nat.le_of_ble_eq_true rfl) (by simp [Value.category]) rfl ?_
  intro pX eX sX mX bX tX cX AX F htab hmn
  have F : Fx pX l sX mX ([.int (iI (a)), .int (iI (q)), .int (iI (u))] : List Value).toArray tX cX cX4_atMost 3 (some .int) RX4 g AX := F
  refine v_iload_n F (pc := 0) dX4_atMost_0 rfl ?_
  refine v_if_gt F (pc := 1) (a := u) 8 dX4_atMost_1 (by decide) (by omega) (fun c_1 => ?_) (fun c_1 => ?_)
  · have hd0 : 0 ≤ q / u := Int.ediv_nonneg hq.1 (by omega)
    have hd1 : q / u ≤ q := Int.ediv_le_self u hq.1
    refine v_iload_n F (pc := 8) dX4_atMost_8 rfl ?_
    refine v_iload_n F (pc := 9) dX4_atMost_9 rfl ?_
    refine v_iload_n F (pc := 10) dX4_atMost_10 rfl ?_
    refine v_idiv F (pc := 11) (a := q) (b := u) dX4_atMost_11 (by omega) (by omega) ?_
    refine v_mmin F (pc := 12) (a := a) (b := q / u) (rest := []) ci_X4_268 ct_J9_min_7cf53 dX4_atMost_12 (by omega) (by omega) (Nat.le_of_ble_eq_true rfl) (Nat.le_of_ble_eq_true rfl) (Nat.le_of_ble_eq_true rfl) (Nat.le_of_ble_eq_true rfl) (Nat.le_of_ble_eq_true rfl) ?_
    refine v_iret F (pc := 15) (z := (iI (min a (q / u)))) dX4_atMost_15 rfl rfl (Nat.le_of_ble_eq_true rfl) (Nat.le_of_ble_eq_true rfl) ?_
    exact ⟨congrArg (fun z => some (Value.int (iI z))) (by unfold cAM; split <;> omega), rfl⟩
  · refine v_iload_n F (pc := 4) dX4_atMost_4 rfl ?_
    refine v_goto F (pc := 5) 15 dX4_atMost_5 (by decide) ?_
    refine v_iret F (pc := 15) (z := (iI (a))) dX4_atMost_15 rfl rfl (Nat.le_of_ble_eq_true rfl) (Nat.le_of_ble_eq_true rfl) ?_
    exact ⟨congrArg (fun z => some (Value.int (iI z))) (by unfold cAM; split <;> omega), rfl⟩
-- X4_requireRange
set_option maxRecDepth 100000 in
set_option maxHeartbeats 8000000 in
theorem k_X4_requireRange (l : Launch) (g : gT) {h : fH} (v lo hi : Int) (hv : -2147483648 ≤ v ∧ v ≤ 2147483647) (hlo : -2147483648 ≤ lo ∧ lo ≤ 2147483647) (hhi : -2147483648 ≤ hi ∧ hi ≤ 2147483647) : CM l g yX4_requireRange cX4_requireRange 3 none ({ frames := 10, cells := 1, slots := 6, locals := 140 }) [.int (iI (v)), .int (iI (lo)), .int (iI (hi))] (h) (fun w h1 => w = none ∧ h1 = h ∧ lo ≤ v ∧ v ≤ hi) (fun E h1 => E = "java/lang/IllegalArgumentException" ∧ h1 = h ∧ ¬ (lo ≤ v ∧ v ≤ hi)) := by
  refine CM.of (lo := [some (.int (iI (v))), some (.int (iI (lo))), some (.int (iI (hi)))]) (by decide) (Nat.le_of_ble_eq_true rfl) (by simp [Value.category]) rfl ?_
  intro pX eX sX mX bX tX cX AX F htab hmn
  have F : Fx pX l sX mX ([.int (iI (v)), .int (iI (lo)), .int (iI (hi))] : List Value).toArray tX cX cX4_requireRange 3 none RX4 g AX := F
  refine v_iload_n F (pc := 0) dX4_requireRange_0 rfl ?_
  refine v_iload_n F (pc := 1) dX4_requireRange_1 rfl ?_
  refine v_icmp_lt F (pc := 2) (a := v) (b := lo) 10 dX4_requireRange_2 (by decide) (by omega) (by omega) (fun c_1 => ?_) (fun c_1 => ?_)
  · refine v_throw F (pc := 10) (text := "out of range") fit_IllegalArgumentException th_fit tk_X4_241 ti_IllegalArgumentException (by decide) th_X4_241_245 tg_X4_241_245 htab dX4_requireRange_10 dX4_requireRange_13 dX4_requireRange_14 dX4_requireRange_16 dX4_requireRange_19 (Nat.le_of_ble_eq_true rfl) (Nat.le_of_ble_eq_true rfl) (Nat.le_of_ble_eq_true rfl) (Nat.le_of_ble_eq_true rfl) (Nat.le_of_ble_eq_true rfl) (Nat.le_of_ble_eq_true rfl) ?_
    exact ⟨rfl, rfl, by omega⟩
  · refine v_iload_n F (pc := 5) dX4_requireRange_5 rfl ?_
    refine v_iload_n F (pc := 6) dX4_requireRange_6 rfl ?_
    refine v_icmp_le F (pc := 7) (a := v) (b := hi) 20 dX4_requireRange_7 (by decide) (by omega) (by omega) (fun c_2 => ?_) (fun c_2 => ?_)
    · refine v_vret F (pc := 20) dX4_requireRange_20 rfl (Nat.le_of_ble_eq_true rfl) (Nat.le_of_ble_eq_true rfl) ?_
      exact ⟨rfl, rfl, by omega, by omega⟩
    · refine v_throw F (pc := 10) (text := "out of range") fit_IllegalArgumentException th_fit tk_X4_241 ti_IllegalArgumentException (by decide) th_X4_241_245 tg_X4_241_245 htab dX4_requireRange_10 dX4_requireRange_13 dX4_requireRange_14 dX4_requireRange_16 dX4_requireRange_19 (Nat.le_of_ble_eq_true rfl) (Nat.le_of_ble_eq_true rfl) (Nat.le_of_ble_eq_true rfl) (Nat.le_of_ble_eq_true rfl) (Nat.le_of_ble_eq_true rfl) (Nat.le_of_ble_eq_true rfl) ?_
      exact ⟨rfl, rfl, by omega⟩
-- X4_requireFeed
set_option maxRecDepth 100000 in
set_option maxHeartbeats 8000000 in
theorem k_X4_requireFeed (l : Launch) (g : gT) {h : fH} (f : Int) (hf : -2147483648 ≤ f ∧ f ≤ 2147483647) : CM l g yX4_requireFeed cX4_requireFeed 1 none ({ frames := 11, cells := 1, slots := 6, locals := 162 }) [.int (iI (f))] (h) (fun w h1 => w = none ∧ h1 = h ∧ 0 ≤ f ∧ f ≤ 1) (fun E h1 => E = "java/lang/IllegalArgumentException" ∧ h1 = h ∧ ¬ (0 ≤ f ∧ f ≤ 1)) := by
  refine CM.of (lo := [some (.int (iI (f)))]) (by decide) (Nat.le_of_ble_eq_true rfl) (by simp [Value.category]) rfl ?_
  intro pX eX sX mX bX tX cX AX F htab hmn
  have F : Fx pX l sX mX ([.int (iI (f))] : List Value).toArray tX cX cX4_requireFeed 1 none RX4 g AX := F
  refine v_iload_n F (pc := 0) dX4_requireFeed_0 rfl ?_
  refine v_iconst F (pc := 1) dX4_requireFeed_1 ?_
  refine v_iconst F (pc := 2) dX4_requireFeed_2 ?_
  refine v_callS F (pc := 3) (As := [.int (iI (f)), .int (iI (0)), .int (iI (1))]) (rest := []) ci_X4_46 ct_X4_requireRange (k_X4_requireRange l g f 0 1 (by omega) (by omega) (by omega)) dX4_requireFeed_3 rfl rfl (Nat.le_of_ble_eq_true rfl) (Nat.le_of_ble_eq_true rfl) (Nat.le_of_ble_eq_true rfl) (Nat.le_of_ble_eq_true rfl) (Nat.le_of_ble_eq_true rfl) (fun v_ h_ hp_ => ?_) (fun E_ h_ hp_ => by obtain ⟨rfl, rfl, hc_⟩ := hp_; exact v_xout F.2.2.2.2.2.1 htab (Nat.le_of_ble_eq_true rfl) (Nat.le_of_ble_eq_true rfl) (⟨rfl, rfl, fun z_ => hc_ ⟨by omega, by omega⟩⟩))
  obtain ⟨rfl, rfl, rr_1a, rr_1b⟩ := hp_
  refine v_vret F (pc := 6) dX4_requireFeed_6 rfl (Nat.le_of_ble_eq_true rfl) (Nat.le_of_ble_eq_true rfl) ?_
  exact ⟨rfl, rfl, by omega, by omega⟩
-- X1_hasCordTo
set_option maxRecDepth 100000 in
set_option maxHeartbeats 8000000 in
theorem k_X1_hasCordTo (l : Launch) (g : gT) {P K : Nat → Nat} {r : Nat → Int → Option Nat} {cp : Nat → Nat} {b b' : Nat} {τ : sT} (hk : cok P K cp) {m : Nat} (hm : K m = 1) (hmb : Mb τ m) (f : Int) (hf : -2147483648 ≤ f ∧ f ≤ 2147483647) : CM l g yX1_hasCordTo cX1_hasCordTo 2 (some .boolean) ({ frames := 2, cells := 0, slots := 0, locals := 41 }) [.ref m, .int (iI (f))] (cheap g P K r cp b b' τ) (pV (some (.int (iI (bI (cdd (τ 34 m) f))))) (cheap g P K r cp b b' τ)) (noX) := by
  refine CM.of (lo := [some (.ref m), some (.int (iI (f)))]) (by decide) (Nat.le_of_ble_eq_true rfl) (by simp [Value.category]) rfl ?_
  intro pX eX sX mX bX tX cX AX F htab hmn
  have F : Fx pX l sX mX ([.ref m, .int (iI (f))] : List Value).toArray tX cX cX1_hasCordTo 2 (some .boolean) RX1 g AX := F
  refine v_iload_n F (pc := 0) dX1_hasCordTo_0 rfl ?_
  refine v_aload_n F (pc := 1) dX1_hasCordTo_1 rfl ?_
  refine v_getf F (pc := 2) fd_X1_24_4 (v := .int (iI (τ 34 (m : Nat)))) dX1_hasCordTo_2 (ch_m hk hm) rfl ?_
  refine v_callSp F (pc := 5) (As := [.int (iI (f)), .int (iI (τ 34 (m : Nat)))]) (rest := []) ci_X1_33 ct_X1_leadTo (k_X1_leadTo l g f (τ 34 (m : Nat)) (by omega) (by omega)) dX1_hasCordTo_5 rfl rfl (Nat.le_of_ble_eq_true rfl) (Nat.le_of_ble_eq_true rfl) (Nat.le_of_ble_eq_true rfl) (Nat.le_of_ble_eq_true rfl) (Nat.le_of_ble_eq_true rfl) ?_ (fun _ _ z => z.elim)
  refine v_iret F (pc := 8) (z := (iI (bI (cdd (τ 34 (m : Nat)) f)))) dX1_hasCordTo_8 rfl (by first | rfl | exact nar_bI _ | decide) (Nat.le_of_ble_eq_true rfl) (Nat.le_of_ble_eq_true rfl) ?_
  exact ⟨rfl, rfl⟩
-- X1_worstWith
set_option maxRecDepth 100000 in
set_option maxHeartbeats 8000000 in
theorem k_X1_worstWith (l : Launch) (g : gT) {P K : Nat → Nat} {r : Nat → Int → Option Nat} {cp : Nat → Nat} {b b' : Nat} {τ : sT} (hk : cok P K cp) {m : Nat} (hm : K m = 1) (hmb : Mb τ m) (f c : Int) (hf : -2147483648 ≤ f ∧ f ≤ 2147483647) (hc : -2147483648 ≤ c ∧ c ≤ 2147483647) : CM l g yX1_worstWith cX1_worstWith 3 (some .int) ({ frames := 2, cells := 0, slots := 0, locals := 41 }) [.ref m, .int (iI (f)), .int (iI (c))] (cheap g P K r cp b b' τ) (pV (some (.int (iI (m_pw c f (τ 32 m))))) (cheap g P K r cp b b' τ)) (noX) := by
  refine CM.of (lo := [some (.ref m), some (.int (iI (f))), some (.int (iI (c)))]) (by decide) (Nat.le_of_ble_eq_true rfl) (by simp [Value.category]) rfl ?_
  intro pX eX sX mX bX tX cX AX F htab hmn
  have F : Fx pX l sX mX ([.ref m, .int (iI (f)), .int (iI (c))] : List Value).toArray tX cX cX1_worstWith 3 (some .int) RX1 g AX := F
  refine v_iload_n F (pc := 0) dX1_worstWith_0 rfl ?_
  refine v_iload_n F (pc := 1) dX1_worstWith_1 rfl ?_
  refine v_callSp F (pc := 2) (As := [.int (iI (f)), .int (iI (c))]) (rest := []) ci_X1_33 ct_X1_leadTo (k_X1_leadTo l g f c (by omega) (by omega)) dX1_worstWith_2 rfl rfl (Nat.le_of_ble_eq_true rfl) (Nat.le_of_ble_eq_true rfl) (Nat.le_of_ble_eq_true rfl) (Nat.le_of_ble_eq_true rfl) (Nat.le_of_ble_eq_true rfl) ?_ (fun _ _ z => z.elim)
  refine v_if_eqB F (pc := 5) (b := (cdd c f)) 15 dX1_worstWith_5 (by decide) (fun c_1 => ?_) (fun c_1 => ?_)
  · refine v_iconst F (pc := 15) dX1_worstWith_15 ?_
    refine v_iret F (pc := 16) (z := (iI (0))) dX1_worstWith_16 rfl rfl (Nat.le_of_ble_eq_true rfl) (Nat.le_of_ble_eq_true rfl) ?_
    exact ⟨congrArg (fun z => some (Value.int (iI z))) (by unfold m_pw; simp_all), rfl⟩
  · refine v_aload_n F (pc := 8) dX1_worstWith_8 rfl ?_
    refine v_getf F (pc := 9) fd_X1_18_4 (v := .int (iI (τ 32 (m : Nat)))) dX1_worstWith_9 (ch_m hk hm) rfl ?_
    refine v_goto F (pc := 12) 16 dX1_worstWith_12 (by decide) ?_
    refine v_iret F (pc := 16) (z := (iI (τ 32 (m : Nat)))) dX1_worstWith_16 rfl rfl (Nat.le_of_ble_eq_true rfl) (Nat.le_of_ble_eq_true rfl) ?_
    exact ⟨congrArg (fun z => some (Value.int (iI z))) (by unfold m_pw; simp_all), rfl⟩
-- X1_worstOn
set_option maxRecDepth 100000 in
set_option maxHeartbeats 8000000 in
theorem k_X1_worstOn (l : Launch) (g : gT) {P K : Nat → Nat} {r : Nat → Int → Option Nat} {cp : Nat → Nat} {b b' : Nat} {τ : sT} (hk : cok P K cp) {m : Nat} (hm : K m = 1) (hmb : Mb τ m) (f : Int) (hf : -2147483648 ≤ f ∧ f ≤ 2147483647) : CM l g yX1_worstOn cX1_worstOn 2 (some .int) ({ frames := 3, cells := 0, slots := 0, locals := 63 }) [.ref m, .int (iI (f))] (cheap g P K r cp b b' τ) (pV (some (.int (iI (m_pw (τ 34 m) f (τ 32 m))))) (cheap g P K r cp b b' τ)) (noX) := by
  refine CM.of (lo := [some (.ref m), some (.int (iI (f)))]) (by decide) (Nat.le_of_ble_eq_true rfl) (by simp [Value.category]) rfl ?_
  intro pX eX sX mX bX tX cX AX F htab hmn
  have F : Fx pX l sX mX ([.ref m, .int (iI (f))] : List Value).toArray tX cX cX1_worstOn 2 (some .int) RX1 g AX := F
  refine v_aload_n F (pc := 0) dX1_worstOn_0 rfl ?_
  refine v_iload_n F (pc := 1) dX1_worstOn_1 rfl ?_
  refine v_aload_n F (pc := 2) dX1_worstOn_2 rfl ?_
  refine v_getf F (pc := 3) fd_X1_24_4 (v := .int (iI (τ 34 (m : Nat)))) dX1_worstOn_3 (ch_m hk hm) rfl ?_
  refine v_callVp F (pc := 6) (As := [.int (iI (f)), .int (iI (τ 34 (m : Nat)))]) (rest := []) ci_X1_37 ct_X1_worstWith cs_X1_worstWith (k_X1_worstWith l g hk (τ := τ) (K := K) (r := r) (cp := cp) (b := b) (b' := b') (m := m) hm hmb f (τ 34 (m : Nat)) (by omega) (by omega)) dX1_worstOn_6 (k0 := 4) rfl rfl (ch_m hk hm) rfl rfl (Nat.le_of_ble_eq_true rfl) (Nat.le_of_ble_eq_true rfl) (Nat.le_of_ble_eq_true rfl) (Nat.le_of_ble_eq_true rfl) (Nat.le_of_ble_eq_true rfl) ?_ (fun _ _ z => z.elim)
  refine v_iret F (pc := 9) (z := (iI (m_pw (τ 34 (m : Nat)) f (τ 32 m)))) dX1_worstOn_9 rfl rfl (Nat.le_of_ble_eq_true rfl) (Nat.le_of_ble_eq_true rfl) ?_
  exact ⟨rfl, rfl⟩
-- X1_packsAhead
set_option maxRecDepth 100000 in
set_option maxHeartbeats 8000000 in
theorem k_X1_packsAhead (l : Launch) (g : gT) {P K : Nat → Nat} {r : Nat → Int → Option Nat} {cp : Nat → Nat} {b b' : Nat} {τ : sT} (hk : cok P K cp) {m : Nat} (hm : K m = 1) (hmb : Mb τ m) {o : Nat} (ho : K o = 1) (hob : Mb τ o) : CM l g yX1_packsAhead cX1_packsAhead 2 (some .boolean) ({ frames := 1, cells := 0, slots := 0, locals := 20 }) [.ref m, .ref o] (cheap g P K r cp b b' τ) (pV (some (.int (iI (bI (cPA τ m o))))) (cheap g P K r cp b b' τ)) (noX) := by
  refine CM.of (lo := [some (.ref m), some (.ref o)]) (by decide) (Nat.le_of_ble_eq_true rfl) (by simp [Value.category]) rfl ?_
  intro pX eX sX mX bX tX cX AX F htab hmn
  have F : Fx pX l sX mX ([.ref m, .ref o] : List Value).toArray tX cX cX1_packsAhead 2 (some .boolean) RX1 g AX := F
  refine v_aload_n F (pc := 0) dX1_packsAhead_0 rfl ?_
  refine v_getf F (pc := 1) fd_X1_15_4 (v := .int (iI (τ 31 (m : Nat)))) dX1_packsAhead_1 (ch_m hk hm) rfl ?_
  refine v_aload_n F (pc := 4) dX1_packsAhead_4 rfl ?_
  refine v_getf F (pc := 5) fd_X1_15_4 (v := .int (iI (τ 31 (o : Nat)))) dX1_packsAhead_5 (ch_m hk ho) rfl ?_
  refine v_icmp_eq F (pc := 8) (a := τ 31 (m : Nat)) (b := τ 31 (o : Nat)) 30 dX1_packsAhead_8 (by decide) (by omega) (by omega) (fun c_1 => ?_) (fun c_1 => ?_)
  · refine v_aload_n F (pc := 30) dX1_packsAhead_30 rfl ?_
    refine v_getf F (pc := 31) fd_X1_18_4 (v := .int (iI (τ 32 (m : Nat)))) dX1_packsAhead_31 (ch_m hk hm) rfl ?_
    refine v_aload_n F (pc := 34) dX1_packsAhead_34 rfl ?_
    refine v_getf F (pc := 35) fd_X1_18_4 (v := .int (iI (τ 32 (o : Nat)))) dX1_packsAhead_35 (ch_m hk ho) rfl ?_
    refine v_icmp_le F (pc := 38) (a := τ 32 (m : Nat)) (b := τ 32 (o : Nat)) 45 dX1_packsAhead_38 (by decide) (by omega) (by omega) (fun c_2 => ?_) (fun c_2 => ?_)
    · refine v_iconst F (pc := 45) dX1_packsAhead_45 ?_
      refine v_iret F (pc := 46) (z := (iI (0))) dX1_packsAhead_46 rfl (by first | rfl | exact nar_bI _ | decide) (Nat.le_of_ble_eq_true rfl) (Nat.le_of_ble_eq_true rfl) ?_
      exact ⟨congrArg (fun z => some (Value.int (iI z))) (show (0 : Int) = bI (cPA τ m o) by simp only [cPA, bI, Bool.and_eq_true, Bool.or_eq_true, Bool.not_eq_true, decide_eq_true_eq, decide_eq_false_iff_not, decide_not]; split <;> first | omega | simp_all), rfl⟩
    · refine v_iconst F (pc := 41) dX1_packsAhead_41 ?_
      refine v_goto F (pc := 42) 46 dX1_packsAhead_42 (by decide) ?_
      refine v_iret F (pc := 46) (z := (iI (1))) dX1_packsAhead_46 rfl (by first | rfl | exact nar_bI _ | decide) (Nat.le_of_ble_eq_true rfl) (Nat.le_of_ble_eq_true rfl) ?_
      exact ⟨congrArg (fun z => some (Value.int (iI z))) (show (1 : Int) = bI (cPA τ m o) by simp only [cPA, bI, Bool.and_eq_true, Bool.or_eq_true, Bool.not_eq_true, decide_eq_true_eq, decide_eq_false_iff_not, decide_not]; split <;> first | omega | simp_all), rfl⟩
  · refine v_aload_n F (pc := 11) dX1_packsAhead_11 rfl ?_
    refine v_getf F (pc := 12) fd_X1_15_4 (v := .int (iI (τ 31 (m : Nat)))) dX1_packsAhead_12 (ch_m hk hm) rfl ?_
    refine v_aload_n F (pc := 15) dX1_packsAhead_15 rfl ?_
    refine v_getf F (pc := 16) fd_X1_15_4 (v := .int (iI (τ 31 (o : Nat)))) dX1_packsAhead_16 (ch_m hk ho) rfl ?_
    refine v_icmp_le F (pc := 19) (a := τ 31 (m : Nat)) (b := τ 31 (o : Nat)) 26 dX1_packsAhead_19 (by decide) (by omega) (by omega) (fun c_3 => ?_) (fun c_3 => ?_)
    · refine v_iconst F (pc := 26) dX1_packsAhead_26 ?_
      refine v_goto F (pc := 27) 46 dX1_packsAhead_27 (by decide) ?_
      refine v_iret F (pc := 46) (z := (iI (0))) dX1_packsAhead_46 rfl (by first | rfl | exact nar_bI _ | decide) (Nat.le_of_ble_eq_true rfl) (Nat.le_of_ble_eq_true rfl) ?_
      exact ⟨congrArg (fun z => some (Value.int (iI z))) (show (0 : Int) = bI (cPA τ m o) by simp only [cPA, bI, Bool.and_eq_true, Bool.or_eq_true, Bool.not_eq_true, decide_eq_true_eq, decide_eq_false_iff_not, decide_not]; split <;> first | omega | simp_all), rfl⟩
    · refine v_iconst F (pc := 22) dX1_packsAhead_22 ?_
      refine v_goto F (pc := 23) 46 dX1_packsAhead_23 (by decide) ?_
      refine v_iret F (pc := 46) (z := (iI (1))) dX1_packsAhead_46 rfl (by first | rfl | exact nar_bI _ | decide) (Nat.le_of_ble_eq_true rfl) (Nat.le_of_ble_eq_true rfl) ?_
      exact ⟨congrArg (fun z => some (Value.int (iI z))) (show (1 : Int) = bI (cPA τ m o) by simp only [cPA, bI, Bool.and_eq_true, Bool.or_eq_true, Bool.not_eq_true, decide_eq_true_eq, decide_eq_false_iff_not, decide_not]; split <;> first | omega | simp_all), rfl⟩
-- X1_init
set_option maxRecDepth 100000 in
set_option maxHeartbeats 8000000 in
theorem k_X1_init (l : Launch) (g : gT) {h : fH} {a : Nat} (ha : h a = some (.inr (4, [.int (iI (0)), .int (iI (0)), .int (iI (0)), .int (iI (0)), .int (iI (0)), .int (iI (0)), .int (iI (0))]))) (n s p w c : Int) : CM l g yX1_init cX1_init 6 none ({ frames := 1, cells := 0, slots := 0, locals := 20 }) [.ref a, .int (iI (n)), .int (iI (s)), .int (iI (p)), .int (iI (w)), .int (iI (c))] (h) (pV none (f_up h a (.inr (4, [.int (iI (n)), .int (iI (s)), .int (iI (p)), .int (iI (w)), .int (iI (c)), .int (iI (-1)), .int (iI (-1))])))) (noX) := by
  refine CM.of (lo := [some (.ref a), some (.int (iI (n))), some (.int (iI (s))), some (.int (iI (p))), some (.int (iI (w))), some (.int (iI (c)))]) (by decide) (Nat.le_of_ble_eq_true rfl) (by simp [Value.category]) rfl ?_
  intro pX eX sX mX bX tX cX AX F htab hmn
  have F : Fx pX l sX mX ([.ref a, .int (iI (n)), .int (iI (s)), .int (iI (p)), .int (iI (w)), .int (iI (c))] : List Value).toArray tX cX cX1_init 6 none RX1 g AX := F
  have hinit : tX.name = "<init>" := hmn
  refine v_aload_n F (pc := 0) dX1_init_0 rfl ?_
  refine v_objInit F (pc := 1) (tw_m_X1_3) tw_oi tw_oc dX1_init_1 (Nat.le_of_ble_eq_true rfl) (Nat.le_of_ble_eq_true rfl) (by decide) ?_
  refine v_aload_n F (pc := 4) dX1_init_4 rfl ?_
  refine v_iload_n F (pc := 5) dX1_init_5 rfl ?_
  refine v_putF F (pc := 6) fp_X1_9_4 dX1_init_6 ha hinit rfl rfl (Nat.le_of_ble_eq_true rfl) (h' := f_up h a (.inr (4, [.int (iI (n)), .int (iI (0)), .int (iI (0)), .int (iI (0)), .int (iI (0)), .int (iI (0)), .int (iI (0))]))) rfl ?_
  refine v_aload_n F (pc := 9) dX1_init_9 rfl ?_
  refine v_iload_n F (pc := 10) dX1_init_10 rfl ?_
  refine v_putF F (pc := 11) fp_X1_15_4 dX1_init_11 (f_up_s _ _ _) hinit rfl rfl (Nat.le_of_ble_eq_true rfl) (h' := f_up h a (.inr (4, [.int (iI (n)), .int (iI (s)), .int (iI (0)), .int (iI (0)), .int (iI (0)), .int (iI (0)), .int (iI (0))]))) (f_up_up _ _ _ _) ?_
  refine v_aload_n F (pc := 14) dX1_init_14 rfl ?_
  refine v_iload_n F (pc := 15) dX1_init_15 rfl ?_
  refine v_putF F (pc := 16) fp_X1_18_4 dX1_init_16 (f_up_s _ _ _) hinit rfl rfl (Nat.le_of_ble_eq_true rfl) (h' := f_up h a (.inr (4, [.int (iI (n)), .int (iI (s)), .int (iI (p)), .int (iI (0)), .int (iI (0)), .int (iI (0)), .int (iI (0))]))) (f_up_up _ _ _ _) ?_
  refine v_aload_n F (pc := 19) dX1_init_19 rfl ?_
  refine v_iload F (pc := 20) dX1_init_20 rfl ?_
  refine v_putF F (pc := 22) fp_X1_21_4 dX1_init_22 (f_up_s _ _ _) hinit rfl rfl (Nat.le_of_ble_eq_true rfl) (h' := f_up h a (.inr (4, [.int (iI (n)), .int (iI (s)), .int (iI (p)), .int (iI (w)), .int (iI (0)), .int (iI (0)), .int (iI (0))]))) (f_up_up _ _ _ _) ?_
  refine v_aload_n F (pc := 25) dX1_init_25 rfl ?_
  refine v_iload F (pc := 26) dX1_init_26 rfl ?_
  refine v_putf F (pc := 28) fp_X1_24_4 dX1_init_28 (f_up_s _ _ _) rfl rfl (Nat.le_of_ble_eq_true rfl) (h' := f_up h a (.inr (4, [.int (iI (n)), .int (iI (s)), .int (iI (p)), .int (iI (w)), .int (iI (c)), .int (iI (0)), .int (iI (0))]))) (f_up_up _ _ _ _) ?_
  refine v_aload_n F (pc := 31) dX1_init_31 rfl ?_
  refine v_iconst F (pc := 32) dX1_init_32 ?_
  refine v_putf F (pc := 33) fp_X1_27_4 dX1_init_33 (f_up_s _ _ _) rfl rfl (Nat.le_of_ble_eq_true rfl) (h' := f_up h a (.inr (4, [.int (iI (n)), .int (iI (s)), .int (iI (p)), .int (iI (w)), .int (iI (c)), .int (iI (-1)), .int (iI (0))]))) (f_up_up _ _ _ _) ?_
  refine v_aload_n F (pc := 36) dX1_init_36 rfl ?_
  refine v_iconst F (pc := 37) dX1_init_37 ?_
  refine v_putf F (pc := 38) fp_X1_30_4 dX1_init_38 (f_up_s _ _ _) rfl rfl (Nat.le_of_ble_eq_true rfl) (h' := f_up h a (.inr (4, [.int (iI (n)), .int (iI (s)), .int (iI (p)), .int (iI (w)), .int (iI (c)), .int (iI (-1)), .int (iI (-1))]))) (f_up_up _ _ _ _) ?_
  refine v_vret F (pc := 41) dX1_init_41 rfl (Nat.le_of_ble_eq_true rfl) (Nat.le_of_ble_eq_true rfl) ?_
  exact ⟨rfl, rfl⟩
-- X2_init
set_option maxRecDepth 100000 in
set_option maxHeartbeats 8000000 in
theorem k_X2_init (l : Launch) (g : gT) {h : fH} {a : Nat} (ha : h a = some (.inr (5, [.int (iI (0)), .int (iI (0)), .int (iI (0)), .int (iI (0))]))) (w s wl pl : Int) : CM l g yX2_init cX2_init 5 none ({ frames := 1, cells := 0, slots := 0, locals := 20 }) [.ref a, .int (iI (w)), .int (iI (s)), .int (iI (wl)), .int (iI (pl))] (h) (pV none (f_up h a (.inr (5, [.int (iI (w)), .int (iI (s)), .int (iI (wl)), .int (iI (pl))])))) (noX) := by
  refine CM.of (lo := [some (.ref a), some (.int (iI (w))), some (.int (iI (s))), some (.int (iI (wl))), some (.int (iI (pl)))]) (by decide) (Nat.le_of_ble_eq_true rfl) (by simp [Value.category]) rfl ?_
  intro pX eX sX mX bX tX cX AX F htab hmn
  have F : Fx pX l sX mX ([.ref a, .int (iI (w)), .int (iI (s)), .int (iI (wl)), .int (iI (pl))] : List Value).toArray tX cX cX2_init 5 none RX2 g AX := F
  have hinit : tX.name = "<init>" := hmn
  refine v_aload_n F (pc := 0) dX2_init_0 rfl ?_
  refine v_objInit F (pc := 1) (tw_m_X2_1) tw_oi tw_oc dX2_init_1 (Nat.le_of_ble_eq_true rfl) (Nat.le_of_ble_eq_true rfl) (by decide) ?_
  refine v_aload_n F (pc := 4) dX2_init_4 rfl ?_
  refine v_iload_n F (pc := 5) dX2_init_5 rfl ?_
  refine v_putF F (pc := 6) fp_X2_7_5 dX2_init_6 ha hinit rfl rfl (Nat.le_of_ble_eq_true rfl) (h' := f_up h a (.inr (5, [.int (iI (w)), .int (iI (0)), .int (iI (0)), .int (iI (0))]))) rfl ?_
  refine v_aload_n F (pc := 9) dX2_init_9 rfl ?_
  refine v_iload_n F (pc := 10) dX2_init_10 rfl ?_
  refine v_putF F (pc := 11) fp_X2_13_5 dX2_init_11 (f_up_s _ _ _) hinit rfl rfl (Nat.le_of_ble_eq_true rfl) (h' := f_up h a (.inr (5, [.int (iI (w)), .int (iI (s)), .int (iI (0)), .int (iI (0))]))) (f_up_up _ _ _ _) ?_
  refine v_aload_n F (pc := 14) dX2_init_14 rfl ?_
  refine v_iload_n F (pc := 15) dX2_init_15 rfl ?_
  refine v_putF F (pc := 16) fp_X2_16_5 dX2_init_16 (f_up_s _ _ _) hinit rfl rfl (Nat.le_of_ble_eq_true rfl) (h' := f_up h a (.inr (5, [.int (iI (w)), .int (iI (s)), .int (iI (wl)), .int (iI (0))]))) (f_up_up _ _ _ _) ?_
  refine v_aload_n F (pc := 19) dX2_init_19 rfl ?_
  refine v_iload F (pc := 20) dX2_init_20 rfl ?_
  refine v_putF F (pc := 22) fp_X2_19_5 dX2_init_22 (f_up_s _ _ _) hinit rfl rfl (Nat.le_of_ble_eq_true rfl) (h' := f_up h a (.inr (5, [.int (iI (w)), .int (iI (s)), .int (iI (wl)), .int (iI (pl))]))) (f_up_up _ _ _ _) ?_
  refine v_vret F (pc := 25) dX2_init_25 rfl (Nat.le_of_ble_eq_true rfl) (Nat.le_of_ble_eq_true rfl) ?_
  exact ⟨rfl, rfl⟩
