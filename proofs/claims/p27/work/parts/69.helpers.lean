/-! ===== the law: its helpers ===== -/
section KH
variable {x : Nat} {h : fH} {σ : sT} {kf : fH}
set_option maxRecDepth 100000 in
theorem KH_places (l : Launch) (g : gT) (hX : SL g x h σ kf) (n p w c : Int) (hkd : cKD n p w c) (hgv : σ 18 0 < 1000000) : CMW l g yL_places cL_places 6 (some .int) hL_places { frames := 13, cells := 6, slots := 181, locals := 224 } [.ref x, .int (iI n), .int (iI p), .int (iI w), .int (iI c)] h (fun v1 h1 => v1 = some (.int (iI (if pl_c σ n p w c = 0 then σ 18 0 else -3))) ∧ SL g x h1 (pl_s σ n p w c) kf) := by
  obtain ⟨h0, hX0, rfl, hd⟩ := hX
  obtain ⟨hB, hI, hAP, hNO, hNI, hML⟩ := hX0.iv
  obtain ⟨fs, hfs⟩ := hX0.obj
  refine CMW.of (lo := [some (.ref x), some (.int (iI n)), some (.int (iI p)), some (.int (iI w)), some (.int (iI c)), none]) (by decide) (Nat.le_of_ble_eq_true rfl) (by simp [Value.category]) rfl ?_
  intro pX eX sX_ mX bX tX cX AX F htab
  have F : Fx pX l sX_ mX ([.ref x, .int (iI n), .int (iI p), .int (iI w), .int (iI c)] : List Value).toArray tX cX cL_places 6 (some .int) RL g AX := F
  refine v_aload_n F (pc := 0) dL_places_0 rfl ?_
  refine v_iload_n F (pc := 1) dL_places_1 rfl ?_
  refine v_iload_n F (pc := 2) dL_places_2 rfl ?_
  refine v_iload_n F (pc := 3) dL_places_3 rfl ?_
  refine v_iload F (pc := 4) dL_places_4 rfl ?_
  refine v_callV F (pc := 6) (As := [.int (iI n), .int (iI p), .int (iI w), .int (iI c)]) (rest := []) ci_L_7 ct_X4_place cs_X4_place (CM.frame (k := kf) (J_place l g hX0 n p w c (by omega) (by omega) (by omega) (by omega) hgv) hd) dL_places_6 (k0 := 7) rfl rfl (f_or_l hfs) rfl rfl (Nat.le_of_ble_eq_true rfl) (Nat.le_of_ble_eq_true rfl) (Nat.le_of_ble_eq_true rfl) (Nat.le_of_ble_eq_true rfl) (Nat.le_of_ble_eq_true rfl) (fun v h1 hp => ?_) (fun E h1 hp => ?_)
  · obtain ⟨h2, ⟨e0, rfl, hX1⟩, rfl, hd1⟩ := hp
    exact v_iret F (pc := 9) dL_places_9 rfl rfl (Nat.le_of_ble_eq_true rfl) (Nat.le_of_ble_eq_true rfl) ⟨by rw [if_pos e0, show (pl_a σ n p w c) = σ 18 0 from if_pos e0], h2, hX1, rfl, hd1⟩
  · obtain ⟨h2, ⟨hX1, hcase⟩, rfl, hd1⟩ := hp
    rcases hcase with ⟨e, rfl⟩ | ⟨e, rfl⟩
    · exfalso
      have hz : pl_c1 σ n p w c ≠ 1 := by unfold pl_c1; rw [if_pos (kd_kind.mp hkd)]; split <;> omega
      unfold pl_c at e; split at e
      · split at e <;> omega
      · omega
    · refine v_catch F (pc := 6) (hh := hL_places) htab [] ⟨0, 9, 10, 13⟩ [] rfl (fun z hz => absurd hz List.not_mem_nil) (by decide) (by decide) tk_L_13 tc_IllegalStateException (fun q => ?_)
      refine v_astore F (pc := 10) (lo' := [some (.ref x), some (.int (iI n)), some (.int (iI p)), some (.int (iI w)), some (.int (iI c)), some (.ref q)]) dL_places_10 (Nat.le_of_ble_eq_true rfl) rfl ?_
      refine v_bipush F (pc := 12) dL_places_12 (by decide) ?_
      exact v_iret F (pc := 14) dL_places_14 rfl rfl (Nat.le_of_ble_eq_true rfl) (Nat.le_of_ble_eq_true rfl) ⟨by rw [if_neg (show ¬ pl_c σ n p w c = 0 by omega)], h2, hX1, rfl, hd1⟩
set_option maxRecDepth 100000 in
theorem KH_corded (l : Launch) (g : gT) (hX : SL g x h σ kf) (num c : Int) (hf : m_find σ num ≠ -1) (num_r : -2147483648 ≤ num ∧ num ≤ 2147483647) (c0 : 0 ≤ c ∧ c ≤ 2) : CMW l g yL_corded cL_corded 4 (some .int) hL_corded { frames := 13, cells := 3, slots := 18, locals := 207 } [.ref x, .int (iI num), .int (iI c)] h (fun v1 h1 => v1 = some (.int (iI (if cd_c σ num c = 0 then σ 14 (m_find σ num) else -3))) ∧ SL g x h1 (cd_s σ num c) kf) := by
  obtain ⟨h0, hX0, rfl, hd⟩ := hX
  obtain ⟨hB, hI, hAP, hNO, hNI, hML⟩ := hX0.iv
  obtain ⟨fs, hfs⟩ := hX0.obj
  refine CMW.of (lo := [some (.ref x), some (.int (iI num)), some (.int (iI c)), none]) (by decide) (Nat.le_of_ble_eq_true rfl) (by simp [Value.category]) rfl ?_
  intro pX eX sX_ mX bX tX cX AX F htab
  have F : Fx pX l sX_ mX ([.ref x, .int (iI num), .int (iI c)] : List Value).toArray tX cX cL_corded 4 (some .int) RL g AX := F
  refine v_aload_n F (pc := 0) dL_corded_0 rfl ?_
  refine v_iload_n F (pc := 1) dL_corded_1 rfl ?_
  refine v_iload_n F (pc := 2) dL_corded_2 rfl ?_
  refine v_callV F (pc := 3) (As := [.int (iI num), .int (iI c)]) (rest := []) ci_L_15 ct_X4_cord cs_X4_cord (CM.frame (k := kf) (J_cord l g hX0 num c (by omega) (by omega)) hd) dL_corded_3 (k0 := 7) rfl rfl (f_or_l hfs) rfl rfl (Nat.le_of_ble_eq_true rfl) (Nat.le_of_ble_eq_true rfl) (Nat.le_of_ble_eq_true rfl) (Nat.le_of_ble_eq_true rfl) (Nat.le_of_ble_eq_true rfl) (fun v h1 hp => ?_) (fun E h1 hp => ?_)
  · obtain ⟨h2, ⟨e0, rfl, hX1⟩, rfl, hd1⟩ := hp
    exact v_iret F (pc := 6) dL_corded_6 rfl rfl (Nat.le_of_ble_eq_true rfl) (Nat.le_of_ble_eq_true rfl) ⟨by rw [if_pos e0, show (cd_a σ num c) = σ 14 (m_find σ num) from if_pos e0], h2, hX1, rfl, hd1⟩
  · obtain ⟨h2, ⟨hX1, hcase⟩, rfl, hd1⟩ := hp
    rcases hcase with ⟨e, rfl⟩ | ⟨e, rfl⟩ | ⟨e, rfl⟩
    · exfalso
      have hz : cd_c1 σ num c = 0 := by unfold cd_c1; rw [if_neg hf, if_pos (inn_iff.mpr c0)]
      unfold cd_c at e; rw [if_pos hz] at e; split at e <;> omega
    · exfalso
      have hz : cd_c1 σ num c = 0 := by unfold cd_c1; rw [if_neg hf, if_pos (inn_iff.mpr c0)]
      unfold cd_c at e; rw [if_pos hz] at e; split at e <;> omega
    · refine v_catch F (pc := 3) (hh := hL_corded) htab [] ⟨0, 6, 7, 13⟩ [] rfl (fun z hz => absurd hz List.not_mem_nil) (by decide) (by decide) tk_L_13 tc_IllegalStateException (fun q => ?_)
      refine v_astore_n F (pc := 7) (lo' := [some (.ref x), some (.int (iI num)), some (.int (iI c)), some (.ref q)]) dL_corded_7 (Nat.le_of_ble_eq_true rfl) rfl ?_
      refine v_bipush F (pc := 8) dL_corded_8 (by decide) ?_
      exact v_iret F (pc := 10) dL_corded_10 rfl rfl (Nat.le_of_ble_eq_true rfl) (Nat.le_of_ble_eq_true rfl) ⟨by rw [if_neg (show ¬ cd_c σ num c = 0 by omega)], h2, hX1, rfl, hd1⟩
set_option maxRecDepth 100000 in
theorem KH_feeds (l : Launch) (g : gT) (hX : SL g x h σ kf) (f x0 : Int) (f0 : 0 ≤ f ∧ f ≤ 1) (x0_0 : 0 ≤ x0 ∧ x0 ≤ 20000) : CMW l g yL_feeds cL_feeds 4 (some .int) hL_feeds { frames := 13, cells := 3, slots := 18, locals := 205 } [.ref x, .int (iI f), .int (iI x0)] h (fun v1 h1 => v1 = some (.int (iI (if sF_c σ f x0 = 0 then σ 8 f else -3))) ∧ SL g x h1 (sF_s σ f x0) kf) := by
  obtain ⟨h0, hX0, rfl, hd⟩ := hX
  obtain ⟨hB, hI, hAP, hNO, hNI, hML⟩ := hX0.iv
  obtain ⟨fs, hfs⟩ := hX0.obj
  refine CMW.of (lo := [some (.ref x), some (.int (iI f)), some (.int (iI x0)), none]) (by decide) (Nat.le_of_ble_eq_true rfl) (by simp [Value.category]) rfl ?_
  intro pX eX sX_ mX bX tX cX AX F htab
  have F : Fx pX l sX_ mX ([.ref x, .int (iI f), .int (iI x0)] : List Value).toArray tX cX cL_feeds 4 (some .int) RL g AX := F
  refine v_aload_n F (pc := 0) dL_feeds_0 rfl ?_
  refine v_iload_n F (pc := 1) dL_feeds_1 rfl ?_
  refine v_iload_n F (pc := 2) dL_feeds_2 rfl ?_
  refine v_callV F (pc := 3) (As := [.int (iI f), .int (iI x0)]) (rest := []) ci_L_19 ct_X4_setFeed cs_X4_setFeed (CM.frame (k := kf) (J_setFeed l g hX0 f x0 (by omega) (by omega)) hd) dL_feeds_3 (k0 := 7) rfl rfl (f_or_l hfs) rfl rfl (Nat.le_of_ble_eq_true rfl) (Nat.le_of_ble_eq_true rfl) (Nat.le_of_ble_eq_true rfl) (Nat.le_of_ble_eq_true rfl) (Nat.le_of_ble_eq_true rfl) (fun v h1 hp => ?_) (fun E h1 hp => ?_)
  · obtain ⟨h2, ⟨e0, rfl, hX1⟩, rfl, hd1⟩ := hp
    exact v_iret F (pc := 6) dL_feeds_6 rfl rfl (Nat.le_of_ble_eq_true rfl) (Nat.le_of_ble_eq_true rfl) ⟨by rw [if_pos e0, show (sF_a σ f x0) = σ 8 f from if_pos e0], h2, hX1, rfl, hd1⟩
  · obtain ⟨h2, ⟨hX1, hcase⟩, rfl, hd1⟩ := hp
    rcases hcase with ⟨e, rfl⟩ | ⟨e, rfl⟩
    · exfalso
      unfold sF_c at e; rw [if_pos (show sF_ok f x0 = true from by unfold sF_ok; rw [inn_iff.mpr f0, inn_iff.mpr x0_0]; rfl)] at e; split at e <;> omega
    · refine v_catch F (pc := 3) (hh := hL_feeds) htab [] ⟨0, 6, 7, 13⟩ [] rfl (fun z hz => absurd hz List.not_mem_nil) (by decide) (by decide) tk_L_13 tc_IllegalStateException (fun q => ?_)
      refine v_astore_n F (pc := 7) (lo' := [some (.ref x), some (.int (iI f)), some (.int (iI x0)), some (.ref q)]) dL_feeds_7 (Nat.le_of_ble_eq_true rfl) rfl ?_
      refine v_bipush F (pc := 8) dL_feeds_8 (by decide) ?_
      exact v_iret F (pc := 10) dL_feeds_10 rfl rfl (Nat.le_of_ble_eq_true rfl) (Nat.le_of_ble_eq_true rfl) ⟨by rw [if_neg (show ¬ sF_c σ f x0 = 0 by omega)], h2, hX1, rfl, hd1⟩
set_option maxRecDepth 100000 in
theorem KH_rows (l : Launch) (g : gT) (hX : SL g x h σ kf) (row x0 y : Int) (w0 : 0 ≤ row ∧ row ≤ 3) (x0_0 : 0 ≤ x0 ∧ x0 ≤ 10000) (y0 : 0 ≤ y ∧ y ≤ 10000) : CMW l g yL_rows cL_rows 5 (some .int) hL_rows { frames := 12, cells := 4, slots := 24, locals := 185 } [.ref x, .int (iI row), .int (iI x0), .int (iI y)] h (fun v1 h1 => v1 = some (.int (iI (if sR_c σ row x0 y = 0 then 0 else -3))) ∧ SL g x h1 (sR_s σ row x0 y) kf) := by
  obtain ⟨h0, hX0, rfl, hd⟩ := hX
  obtain ⟨hB, hI, hAP, hNO, hNI, hML⟩ := hX0.iv
  obtain ⟨fs, hfs⟩ := hX0.obj
  refine CMW.of (lo := [some (.ref x), some (.int (iI row)), some (.int (iI x0)), some (.int (iI y)), none]) (by decide) (Nat.le_of_ble_eq_true rfl) (by simp [Value.category]) rfl ?_
  intro pX eX sX_ mX bX tX cX AX F htab
  have F : Fx pX l sX_ mX ([.ref x, .int (iI row), .int (iI x0), .int (iI y)] : List Value).toArray tX cX cL_rows 5 (some .int) RL g AX := F
  refine v_aload_n F (pc := 0) dL_rows_0 rfl ?_
  refine v_iload_n F (pc := 1) dL_rows_1 rfl ?_
  refine v_iload_n F (pc := 2) dL_rows_2 rfl ?_
  refine v_iload_n F (pc := 3) dL_rows_3 rfl ?_
  refine v_callV F (pc := 4) (As := [.int (iI row), .int (iI x0), .int (iI y)]) (rest := []) ci_L_22 ct_X4_setRow cs_X4_setRow (CM.frame (k := kf) (J_setRow l g hX0 row x0 y (by omega) (by omega) (by omega)) hd) dL_rows_4 (k0 := 7) rfl rfl (f_or_l hfs) rfl rfl (Nat.le_of_ble_eq_true rfl) (Nat.le_of_ble_eq_true rfl) (Nat.le_of_ble_eq_true rfl) (Nat.le_of_ble_eq_true rfl) (Nat.le_of_ble_eq_true rfl) (fun v h1 hp => ?_) (fun E h1 hp => ?_)
  · obtain ⟨h2, ⟨e0, rfl, hX1⟩, rfl, hd1⟩ := hp
    refine v_iconst F (pc := 7) dL_rows_7 ?_
    exact v_iret F (pc := 8) dL_rows_8 rfl rfl (Nat.le_of_ble_eq_true rfl) (Nat.le_of_ble_eq_true rfl) ⟨by rw [if_pos e0], h2, hX1, rfl, hd1⟩
  · obtain ⟨h2, ⟨hX1, hcase⟩, rfl, hd1⟩ := hp
    rcases hcase with ⟨e, rfl⟩ | ⟨e, rfl⟩
    · exfalso
      unfold sR_c at e; rw [if_pos (show sR_ok row x0 y = true from by unfold sR_ok; rw [inn_iff.mpr w0, inn_iff.mpr x0_0, inn_iff.mpr y0]; rfl)] at e; split at e <;> omega
    · refine v_catch F (pc := 4) (hh := hL_rows) htab [] ⟨0, 8, 9, 13⟩ [] rfl (fun z hz => absurd hz List.not_mem_nil) (by decide) (by decide) tk_L_13 tc_IllegalStateException (fun q => ?_)
      refine v_astore F (pc := 9) (lo' := [some (.ref x), some (.int (iI row)), some (.int (iI x0)), some (.int (iI y)), some (.ref q)]) dL_rows_9 (Nat.le_of_ble_eq_true rfl) rfl ?_
      refine v_bipush F (pc := 11) dL_rows_11 (by decide) ?_
      exact v_iret F (pc := 13) dL_rows_13 rfl rfl (Nat.le_of_ble_eq_true rfl) (Nat.le_of_ble_eq_true rfl) ⟨by rw [if_neg (show ¬ sR_c σ row x0 y = 0 by omega)], h2, hX1, rfl, hd1⟩
set_option maxRecDepth 100000 in
theorem KH_rack (l : Launch) (g : gT) (hX : SL g x h σ kf) (num : Int) (num_r : -2147483648 ≤ num ∧ num ≤ 2147483647) : CMW l g yL_rack cL_rack 3 (some .int) hL_rack { frames := 13, cells := 1, slots := 6, locals := 204 } [.ref x, .int (iI num)] h (fun v1 h1 => v1 = some (.int (iI (if fnd_c σ num = 0 then σ 15 (m_find σ num) else -1))) ∧ SL g x h1 (σ) kf) := by
  obtain ⟨h0, hX0, rfl, hd⟩ := hX
  obtain ⟨hB, hI, hAP, hNO, hNI, hML⟩ := hX0.iv
  obtain ⟨fs, hfs⟩ := hX0.obj
  refine CMW.of (lo := [some (.ref x), some (.int (iI num)), none]) (by decide) (Nat.le_of_ble_eq_true rfl) (by simp [Value.category]) rfl ?_
  intro pX eX sX_ mX bX tX cX AX F htab
  have F : Fx pX l sX_ mX ([.ref x, .int (iI num)] : List Value).toArray tX cX cL_rack 3 (some .int) RL g AX := F
  refine v_aload_n F (pc := 0) dL_rack_0 rfl ?_
  refine v_iload_n F (pc := 1) dL_rack_1 rfl ?_
  refine v_callV F (pc := 2) (As := [.int (iI num)]) (rest := []) ci_L_26 ct_X4_rackOf cs_X4_rackOf (CM.frame (k := kf) (J_rackOf l g hX0 num (by omega)) hd) dL_rack_2 (k0 := 7) rfl rfl (f_or_l hfs) rfl rfl (Nat.le_of_ble_eq_true rfl) (Nat.le_of_ble_eq_true rfl) (Nat.le_of_ble_eq_true rfl) (Nat.le_of_ble_eq_true rfl) (Nat.le_of_ble_eq_true rfl) (fun v h1 hp => ?_) (fun E h1 hp => ?_)
  · obtain ⟨h2, ⟨e0, rfl, hX1⟩, rfl, hd1⟩ := hp
    exact v_iret F (pc := 5) dL_rack_5 rfl rfl (Nat.le_of_ble_eq_true rfl) (Nat.le_of_ble_eq_true rfl) ⟨by rw [if_pos e0, if_pos e0], h2, hX1.n0 hB, rfl, hd1⟩
  · obtain ⟨h2, ⟨hX1, hcase⟩, rfl, hd1⟩ := hp
    obtain ⟨e, rfl⟩ := hcase
    refine v_catch F (pc := 2) (hh := hL_rack) htab [] ⟨0, 5, 6, 30⟩ [] rfl (fun z hz => absurd hz List.not_mem_nil) (by decide) (by decide) tk_L_30 tc_IndexOutOfBoundsException (fun q => ?_)
    refine v_astore_n F (pc := 6) (lo' := [some (.ref x), some (.int (iI num)), some (.ref q)]) dL_rack_6 (Nat.le_of_ble_eq_true rfl) rfl ?_
    refine v_iconst F (pc := 7) dL_rack_7 ?_
    exact v_iret F (pc := 8) dL_rack_8 rfl rfl (Nat.le_of_ble_eq_true rfl) (Nat.le_of_ble_eq_true rfl) ⟨by rw [if_neg (show ¬ fnd_c σ num = 0 by omega)], h2, hX1.n0 hB, rfl, hd1⟩
end KH
