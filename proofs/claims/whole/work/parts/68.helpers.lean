/-! ===== the law: its helpers ===== -/
theorem SX.obj {g : gT} {x : Nat} {h : fH} {σ : sT} (hX : SX g x h σ) : ∃ fs, h x = some (.inr (7, fs)) := by
  obtain ⟨P, K, r, cp, b, b', τ, rfl, rfl, hk, hR⟩ := hX
  exact ⟨_, ch_0 hk⟩
section VL9
variable {p : Program} {l : Launch} {e : Env} {R : Room} {s : State} {m : MethodId} {args : Array Value} {below : List Frame} {meth : Method} {c : Code} {Q : State → Prop} {nl : Nat} {g : gT} {A : Nat → Prop} {h : fH} {cells slots pc : Nat} {lo lo' : List (Option Value)} {st : List Value} {cc : ByteArray} {ret : Option FieldType} {own : String}
theorem v_i2l9 (F : Fx p l s m args meth c cc nl ret own g A) {x : Int32} (d : decode cc pc = .ok (.i2l, 1)) (k : V p l e R s m args below meth c Q nl g A h cells slots (pc + 1) lo (.long x.toInt64 :: st)) : V p l e R s m args below meth c Q nl g A h cells slots pc lo (.int x :: st) :=
  fun H locs ls hP hS hl => lv_i2l F.1 F.2.1 d rfl (k H locs ls hP hS hl)
end VL9
set_option maxRecDepth 100000 in
theorem KL_addRack (l : Launch) (g : gT) {x o : Nat} {h : fH} {σ : sT} (hX : SX g x h σ) (ho : h o = none) (v0 : Int64) (row s x0 y : Int) (hrow_ : -2147483648 ≤ row ∧ row ≤ 2147483647) (hs_ : -2147483648 ≤ s ∧ s ≤ 2147483647) (hx0_ : -2147483648 ≤ x0 ∧ x0 ≤ 2147483647) (hy_ : -2147483648 ≤ y ∧ y ≤ 2147483647) : CMW l g yL_addRack cL_addRack 7 (some .int) hL_addRack { frames := 12, cells := 6, slots := 178, locals := 216 } [.ref x, .int (iI row), .int (iI s), .int (iI x0), .int (iI y), .ref o] (f_or h (fO g o v0)) (fun v1 h1 => ∃ (h2 : fH) (v2 : Int64), v1 = some (.int (iI (aR_c σ row s x0 y))) ∧ h1 = f_or h2 (fO g o v2) ∧ h2 o = none ∧ SX g x h2 (aR_s σ row s x0 y) ∧ (aR_c σ row s x0 y = 0 → v2 = (iI (aR_a σ row s x0 y)).toInt64)) := by
  refine CMW.of (lo := [some (.ref x), some (.int (iI row)), some (.int (iI s)), some (.int (iI x0)), some (.int (iI y)), some (.ref o), none]) (by decide) (Nat.le_of_ble_eq_true rfl) (by simp [Value.category]) rfl ?_
  intro pX eX sX_ mX bX tX cX AX F htab hN
  have F : Fx pX l sX_ mX ([.ref x, .int (iI row), .int (iI s), .int (iI x0), .int (iI y), .ref o] : List Value).toArray tX cX cL_addRack 7 (some .int) RL g AX := F
  obtain ⟨fs, hfs⟩ := SX.obj hX
  have hd : ∀ a, fO g o v0 a ≠ none → h a = none := fun a ha => by rw [fO_n ha]; exact ho
  refine v_aload F (pc := 0) dL_addRack_0 rfl ?_
  refine v_iconst F (pc := 2) dL_addRack_2 ?_
  refine v_aload_n F (pc := 3) dL_addRack_3 rfl ?_
  refine v_iload_n F (pc := 4) dL_addRack_4 rfl ?_
  refine v_iload_n F (pc := 5) dL_addRack_5 rfl ?_
  refine v_iload_n F (pc := 6) dL_addRack_6 rfl ?_
  refine v_iload F (pc := 7) dL_addRack_7 rfl ?_
  refine v_callV F (pc := 9) (As := [.int (iI row), .int (iI s), .int (iI x0), .int (iI y)]) (rest := [.int (iI 0), .ref o]) ci_L_7 ct_X4_addRack cs_X4_addRack (CM.frame (k := fO g o v0) (J_addRack l g hX row s x0 y hrow_ hs_ hx0_ hy_) hd) dL_addRack_9 (k0 := 7) rfl rfl (f_or_l hfs) rfl rfl (Nat.le_of_ble_eq_true rfl) (Nat.le_of_ble_eq_true rfl) (Nat.le_of_ble_eq_true rfl) (Nat.le_of_ble_eq_true rfl) (Nat.le_of_ble_eq_true rfl) (fun v h1 hp => ?_) (fun E h1 hp => ?_)
  · obtain ⟨h2, ⟨e0, rfl, hX1⟩, rfl, hd1⟩ := hp
    have ho1 : h2 o = none := hd1 o (by rw [fO_s]; exact fun z => by cases z)
    refine v_i2l9 F (pc := 12) dL_addRack_12 ?_
    refine v_last F (pc := 13) ho1 dL_addRack_13 ?_
    refine v_goto F (pc := 14) 25 dL_addRack_14 (by decide) ?_
    refine v_iconst F (pc := 25) dL_addRack_25 ?_
    exact v_iret F (pc := 26) dL_addRack_26 rfl rfl (Nat.le_of_ble_eq_true rfl) (Nat.le_of_ble_eq_true rfl) ⟨h2, _, by rw [e0], rfl, ho1, hX1, fun _ => rfl⟩
  · obtain ⟨h2, ⟨hX1, hcase⟩, rfl, hd1⟩ := hp
    have ho1 : h2 o = none := hd1 o (by rw [fO_s]; exact fun z => by cases z)
    rcases hcase with ⟨e, rfl⟩ | ⟨e, rfl⟩
    · refine v_catch F (pc := 9) (hh := hL_addRack) htab [] ⟨0, 14, 17, 13⟩ [⟨0, 14, 21, 15⟩] rfl (fun z hz => absurd hz List.not_mem_nil) (by decide) (by decide) tk_L_13 tc_IllegalArgumentException (fun q => ?_)
      refine v_astore F (pc := 17) (lo' := [some (.ref x), some (.int (iI row)), some (.int (iI s)), some (.int (iI x0)), some (.int (iI y)), some (.ref o), some (.ref q)]) dL_addRack_17 (Nat.le_of_ble_eq_true rfl) rfl ?_
      refine v_iconst F (pc := 19) dL_addRack_19 ?_
      exact v_iret F (pc := 20) dL_addRack_20 rfl rfl (Nat.le_of_ble_eq_true rfl) (Nat.le_of_ble_eq_true rfl) ⟨h2, v0, by rw [e], rfl, ho1, hX1, fun z => absurd (e.symm.trans z) (by decide)⟩
    · refine v_catch F (pc := 9) (hh := hL_addRack) htab [⟨0, 14, 17, 13⟩] ⟨0, 14, 21, 15⟩ [] rfl (fun z hz => by rw [List.mem_singleton] at hz; subst hz; exact ⟨by decide, _, tk_L_13, hN.1⟩) (by decide) (by decide) tk_L_15 tc_IllegalStateException (fun q => ?_)
      refine v_astore F (pc := 21) (lo' := [some (.ref x), some (.int (iI row)), some (.int (iI s)), some (.int (iI x0)), some (.int (iI y)), some (.ref o), some (.ref q)]) dL_addRack_21 (Nat.le_of_ble_eq_true rfl) rfl ?_
      refine v_iconst F (pc := 23) dL_addRack_23 ?_
      exact v_iret F (pc := 24) dL_addRack_24 rfl rfl (Nat.le_of_ble_eq_true rfl) (Nat.le_of_ble_eq_true rfl) ⟨h2, v0, by rw [e], rfl, ho1, hX1, fun z => absurd (e.symm.trans z) (by decide)⟩
set_option maxRecDepth 100000 in
theorem KL_setRow (l : Launch) (g : gT) {x : Nat} {h : fH} {σ : sT} (hX : SX g x h σ) (row x0 y : Int) (hrow_ : -2147483648 ≤ row ∧ row ≤ 2147483647) (hx0_ : -2147483648 ≤ x0 ∧ x0 ≤ 2147483647) (hy_ : -2147483648 ≤ y ∧ y ≤ 2147483647) : CMW l g yL_setRow cL_setRow 5 (some .int) hL_setRow { frames := 12, cells := 4, slots := 24, locals := 185 } [.ref x, .int (iI row), .int (iI x0), .int (iI y)] h (fun v1 h1 => v1 = some (.int (iI (sR_c σ row x0 y))) ∧ SX g x h1 (sR_s σ row x0 y)) := by
  refine CMW.of (lo := [some (.ref x), some (.int (iI row)), some (.int (iI x0)), some (.int (iI y)), none]) (by decide) (Nat.le_of_ble_eq_true rfl) (by simp [Value.category]) rfl ?_
  intro pX eX sX_ mX bX tX cX AX F htab hN
  have F : Fx pX l sX_ mX ([.ref x, .int (iI row), .int (iI x0), .int (iI y)] : List Value).toArray tX cX cL_setRow 5 (some .int) RL g AX := F
  obtain ⟨fs, hfs⟩ := SX.obj hX
  refine v_aload_n F (pc := 0) dL_setRow_0 rfl ?_
  refine v_iload_n F (pc := 1) dL_setRow_1 rfl ?_
  refine v_iload_n F (pc := 2) dL_setRow_2 rfl ?_
  refine v_iload_n F (pc := 3) dL_setRow_3 rfl ?_
  refine v_callV F (pc := 4) (As := [.int (iI row), .int (iI x0), .int (iI y)]) (rest := []) ci_L_17 ct_X4_setRow cs_X4_setRow (J_setRow l g hX row x0 y hrow_ hx0_ hy_) dL_setRow_4 (k0 := 7) rfl rfl hfs rfl rfl (Nat.le_of_ble_eq_true rfl) (Nat.le_of_ble_eq_true rfl) (Nat.le_of_ble_eq_true rfl) (Nat.le_of_ble_eq_true rfl) (Nat.le_of_ble_eq_true rfl) (fun v h1 hp => ?_) (fun E h1 hp => ?_)
  · obtain ⟨e0, rfl, hX1⟩ := hp
    refine v_goto F (pc := 7) 18 dL_setRow_7 (by decide) ?_
    refine v_iconst F (pc := 18) dL_setRow_18 ?_
    exact v_iret F (pc := 19) dL_setRow_19 rfl rfl (Nat.le_of_ble_eq_true rfl) (Nat.le_of_ble_eq_true rfl) ⟨by rw [e0], hX1⟩
  · obtain ⟨hX1, hcase⟩ := hp
    rcases hcase with ⟨e, rfl⟩ | ⟨e, rfl⟩
    · refine v_catch F (pc := 4) (hh := hL_setRow) htab [] ⟨0, 7, 10, 13⟩ [⟨0, 7, 14, 15⟩] rfl (fun z hz => absurd hz List.not_mem_nil) (by decide) (by decide) tk_L_13 tc_IllegalArgumentException (fun q => ?_)
      refine v_astore F (pc := 10) (lo' := [some (.ref x), some (.int (iI row)), some (.int (iI x0)), some (.int (iI y)), some (.ref q)]) dL_setRow_10 (Nat.le_of_ble_eq_true rfl) rfl ?_
      refine v_iconst F (pc := 12) dL_setRow_12 ?_
      exact v_iret F (pc := 13) dL_setRow_13 rfl rfl (Nat.le_of_ble_eq_true rfl) (Nat.le_of_ble_eq_true rfl) ⟨by rw [e], hX1⟩
    · refine v_catch F (pc := 4) (hh := hL_setRow) htab [⟨0, 7, 10, 13⟩] ⟨0, 7, 14, 15⟩ [] rfl (fun z hz => by rw [List.mem_singleton] at hz; subst hz; exact ⟨by decide, _, tk_L_13, hN.1⟩) (by decide) (by decide) tk_L_15 tc_IllegalStateException (fun q => ?_)
      refine v_astore F (pc := 14) (lo' := [some (.ref x), some (.int (iI row)), some (.int (iI x0)), some (.int (iI y)), some (.ref q)]) dL_setRow_14 (Nat.le_of_ble_eq_true rfl) rfl ?_
      refine v_iconst F (pc := 16) dL_setRow_16 ?_
      exact v_iret F (pc := 17) dL_setRow_17 rfl rfl (Nat.le_of_ble_eq_true rfl) (Nat.le_of_ble_eq_true rfl) ⟨by rw [e], hX1⟩
set_option maxRecDepth 100000 in
theorem KL_setFeed (l : Launch) (g : gT) {x o : Nat} {h : fH} {σ : sT} (hX : SX g x h σ) (ho : h o = none) (v0 : Int64) (f x0 : Int) (hf_ : -2147483648 ≤ f ∧ f ≤ 2147483647) (hx0_ : -2147483648 ≤ x0 ∧ x0 ≤ 2147483647) : CMW l g yL_setFeed cL_setFeed 5 (some .int) hL_setFeed { frames := 13, cells := 3, slots := 18, locals := 205 } [.ref x, .int (iI f), .int (iI x0), .ref o] (f_or h (fO g o v0)) (fun v1 h1 => ∃ (h2 : fH) (v2 : Int64), v1 = some (.int (iI (sF_c σ f x0))) ∧ h1 = f_or h2 (fO g o v2) ∧ h2 o = none ∧ SX g x h2 (sF_s σ f x0) ∧ (sF_c σ f x0 = 0 → v2 = (iI (sF_a σ f x0)).toInt64)) := by
  refine CMW.of (lo := [some (.ref x), some (.int (iI f)), some (.int (iI x0)), some (.ref o), none]) (by decide) (Nat.le_of_ble_eq_true rfl) (by simp [Value.category]) rfl ?_
  intro pX eX sX_ mX bX tX cX AX F htab hN
  have F : Fx pX l sX_ mX ([.ref x, .int (iI f), .int (iI x0), .ref o] : List Value).toArray tX cX cL_setFeed 5 (some .int) RL g AX := F
  obtain ⟨fs, hfs⟩ := SX.obj hX
  have hd : ∀ a, fO g o v0 a ≠ none → h a = none := fun a ha => by rw [fO_n ha]; exact ho
  refine v_aload_n F (pc := 0) dL_setFeed_0 rfl ?_
  refine v_iconst F (pc := 1) dL_setFeed_1 ?_
  refine v_aload_n F (pc := 2) dL_setFeed_2 rfl ?_
  refine v_iload_n F (pc := 3) dL_setFeed_3 rfl ?_
  refine v_iload_n F (pc := 4) dL_setFeed_4 rfl ?_
  refine v_callV F (pc := 5) (As := [.int (iI f), .int (iI x0)]) (rest := [.int (iI 0), .ref o]) ci_L_21 ct_X4_setFeed cs_X4_setFeed (CM.frame (k := fO g o v0) (J_setFeed l g hX f x0 hf_ hx0_) hd) dL_setFeed_5 (k0 := 7) rfl rfl (f_or_l hfs) rfl rfl (Nat.le_of_ble_eq_true rfl) (Nat.le_of_ble_eq_true rfl) (Nat.le_of_ble_eq_true rfl) (Nat.le_of_ble_eq_true rfl) (Nat.le_of_ble_eq_true rfl) (fun v h1 hp => ?_) (fun E h1 hp => ?_)
  · obtain ⟨h2, ⟨e0, rfl, hX1⟩, rfl, hd1⟩ := hp
    have ho1 : h2 o = none := hd1 o (by rw [fO_s]; exact fun z => by cases z)
    refine v_i2l9 F (pc := 8) dL_setFeed_8 ?_
    refine v_last F (pc := 9) ho1 dL_setFeed_9 ?_
    refine v_goto F (pc := 10) 21 dL_setFeed_10 (by decide) ?_
    refine v_iconst F (pc := 21) dL_setFeed_21 ?_
    exact v_iret F (pc := 22) dL_setFeed_22 rfl rfl (Nat.le_of_ble_eq_true rfl) (Nat.le_of_ble_eq_true rfl) ⟨h2, _, by rw [e0], rfl, ho1, hX1, fun _ => rfl⟩
  · obtain ⟨h2, ⟨hX1, hcase⟩, rfl, hd1⟩ := hp
    have ho1 : h2 o = none := hd1 o (by rw [fO_s]; exact fun z => by cases z)
    rcases hcase with ⟨e, rfl⟩ | ⟨e, rfl⟩
    · refine v_catch F (pc := 5) (hh := hL_setFeed) htab [] ⟨0, 10, 13, 13⟩ [⟨0, 10, 17, 15⟩] rfl (fun z hz => absurd hz List.not_mem_nil) (by decide) (by decide) tk_L_13 tc_IllegalArgumentException (fun q => ?_)
      refine v_astore F (pc := 13) (lo' := [some (.ref x), some (.int (iI f)), some (.int (iI x0)), some (.ref o), some (.ref q)]) dL_setFeed_13 (Nat.le_of_ble_eq_true rfl) rfl ?_
      refine v_iconst F (pc := 15) dL_setFeed_15 ?_
      exact v_iret F (pc := 16) dL_setFeed_16 rfl rfl (Nat.le_of_ble_eq_true rfl) (Nat.le_of_ble_eq_true rfl) ⟨h2, v0, by rw [e], rfl, ho1, hX1, fun z => absurd (e.symm.trans z) (by decide)⟩
    · refine v_catch F (pc := 5) (hh := hL_setFeed) htab [⟨0, 10, 13, 13⟩] ⟨0, 10, 17, 15⟩ [] rfl (fun z hz => by rw [List.mem_singleton] at hz; subst hz; exact ⟨by decide, _, tk_L_13, hN.1⟩) (by decide) (by decide) tk_L_15 tc_IllegalStateException (fun q => ?_)
      refine v_astore F (pc := 17) (lo' := [some (.ref x), some (.int (iI f)), some (.int (iI x0)), some (.ref o), some (.ref q)]) dL_setFeed_17 (Nat.le_of_ble_eq_true rfl) rfl ?_
      refine v_iconst F (pc := 19) dL_setFeed_19 ?_
      exact v_iret F (pc := 20) dL_setFeed_20 rfl rfl (Nat.le_of_ble_eq_true rfl) (Nat.le_of_ble_eq_true rfl) ⟨h2, v0, by rw [e], rfl, ho1, hX1, fun z => absurd (e.symm.trans z) (by decide)⟩
set_option maxRecDepth 100000 in
theorem KL_switchFeed (l : Launch) (g : gT) {x o : Nat} {h : fH} {σ : sT} (hX : SX g x h σ) (ho : h o = none) (v0 : Int64) (f : Int) (hf_ : -2147483648 ≤ f ∧ f ≤ 2147483647) : CMW l g yL_switchFeed cL_switchFeed 4 (some .int) hL_switchFeed { frames := 13, cells := 1, slots := 6, locals := 205 } [.ref x, .int (iI f), .ref o] (f_or h (fO g o v0)) (fun v1 h1 => ∃ (h2 : fH) (v2 : Int64), v1 = some (.int (iI (c01 (inn f 0 1)))) ∧ h1 = f_or h2 (fO g o v2) ∧ h2 o = none ∧ SX g x h2 (wF_s σ f) ∧ (c01 (inn f 0 1) = 0 → v2 = (iI (wF_a σ f)).toInt64)) := by
  refine CMW.of (lo := [some (.ref x), some (.int (iI f)), some (.ref o), none]) (by decide) (Nat.le_of_ble_eq_true rfl) (by simp [Value.category]) rfl ?_
  intro pX eX sX_ mX bX tX cX AX F htab hN
  have F : Fx pX l sX_ mX ([.ref x, .int (iI f), .ref o] : List Value).toArray tX cX cL_switchFeed 4 (some .int) RL g AX := F
  obtain ⟨fs, hfs⟩ := SX.obj hX
  have hd : ∀ a, fO g o v0 a ≠ none → h a = none := fun a ha => by rw [fO_n ha]; exact ho
  refine v_aload_n F (pc := 0) dL_switchFeed_0 rfl ?_
  refine v_iconst F (pc := 1) dL_switchFeed_1 ?_
  refine v_aload_n F (pc := 2) dL_switchFeed_2 rfl ?_
  refine v_iload_n F (pc := 3) dL_switchFeed_3 rfl ?_
  refine v_callV F (pc := 4) (As := [.int (iI f)]) (rest := [.int (iI 0), .ref o]) ci_L_25 ct_X4_switchFeed cs_X4_switchFeed (CM.frame (k := fO g o v0) (J_switchFeed l g hX f hf_) hd) dL_switchFeed_4 (k0 := 7) rfl rfl (f_or_l hfs) rfl rfl (Nat.le_of_ble_eq_true rfl) (Nat.le_of_ble_eq_true rfl) (Nat.le_of_ble_eq_true rfl) (Nat.le_of_ble_eq_true rfl) (Nat.le_of_ble_eq_true rfl) (fun v h1 hp => ?_) (fun E h1 hp => ?_)
  · obtain ⟨h2, ⟨e0, rfl, hX1⟩, rfl, hd1⟩ := hp
    have ho1 : h2 o = none := hd1 o (by rw [fO_s]; exact fun z => by cases z)
    refine v_i2l9 F (pc := 7) dL_switchFeed_7 ?_
    refine v_last F (pc := 8) ho1 dL_switchFeed_8 ?_
    refine v_goto F (pc := 9) 15 dL_switchFeed_9 (by decide) ?_
    refine v_iconst F (pc := 15) dL_switchFeed_15 ?_
    exact v_iret F (pc := 16) dL_switchFeed_16 rfl rfl (Nat.le_of_ble_eq_true rfl) (Nat.le_of_ble_eq_true rfl) ⟨h2, _, by rw [e0], rfl, ho1, hX1, fun _ => rfl⟩
  · obtain ⟨h2, ⟨hX1, hcase⟩, rfl, hd1⟩ := hp
    have ho1 : h2 o = none := hd1 o (by rw [fO_s]; exact fun z => by cases z)
    obtain ⟨e, rfl⟩ := hcase
    refine v_catch F (pc := 4) (hh := hL_switchFeed) htab [] ⟨0, 9, 12, 13⟩ [] rfl (fun z hz => absurd hz List.not_mem_nil) (by decide) (by decide) tk_L_13 tc_IllegalArgumentException (fun q => ?_)
    refine v_astore_n F (pc := 12) (lo' := [some (.ref x), some (.int (iI f)), some (.ref o), some (.ref q)]) dL_switchFeed_12 (Nat.le_of_ble_eq_true rfl) rfl ?_
    refine v_iconst F (pc := 13) dL_switchFeed_13 ?_
    exact v_iret F (pc := 14) dL_switchFeed_14 rfl rfl (Nat.le_of_ble_eq_true rfl) (Nat.le_of_ble_eq_true rfl) ⟨h2, v0, by rw [e], rfl, ho1, hX1, fun z => absurd (e.symm.trans z) (by decide)⟩
set_option maxRecDepth 100000 in
theorem KL_hasFailed (l : Launch) (g : gT) {x o : Nat} {h : fH} {σ : sT} (hX : SX g x h σ) (ho : h o = none) (v0 : Int64) (f : Int) (hf_ : -2147483648 ≤ f ∧ f ≤ 2147483647) : CMW l g yL_hasFailed cL_hasFailed 4 (some .int) hL_hasFailed { frames := 13, cells := 1, slots := 6, locals := 203 } [.ref x, .int (iI f), .ref o] (f_or h (fO g o v0)) (fun v1 h1 => ∃ (h2 : fH) (v2 : Int64), v1 = some (.int (iI (c01 (inn f 0 1)))) ∧ h1 = f_or h2 (fO g o v2) ∧ h2 o = none ∧ SX g x h2 (su σ 0 0 (c01 (inn f 0 1))) ∧ (c01 (inn f 0 1) = 0 → v2 = lI (bI (decide (c01 (inn f 0 1) = 0) && decide (σ 9 f = 1))))) := by
  refine CMW.of (lo := [some (.ref x), some (.int (iI f)), some (.ref o), none]) (by decide) (Nat.le_of_ble_eq_true rfl) (by simp [Value.category]) rfl ?_
  intro pX eX sX_ mX bX tX cX AX F htab hN
  have F : Fx pX l sX_ mX ([.ref x, .int (iI f), .ref o] : List Value).toArray tX cX cL_hasFailed 4 (some .int) RL g AX := F
  obtain ⟨fs, hfs⟩ := SX.obj hX
  have hd : ∀ a, fO g o v0 a ≠ none → h a = none := fun a ha => by rw [fO_n ha]; exact ho
  refine v_aload_n F (pc := 0) dL_hasFailed_0 rfl ?_
  refine v_iconst F (pc := 1) dL_hasFailed_1 ?_
  refine v_aload_n F (pc := 2) dL_hasFailed_2 rfl ?_
  refine v_iload_n F (pc := 3) dL_hasFailed_3 rfl ?_
  refine v_callV F (pc := 4) (As := [.int (iI f)]) (rest := [.int (iI 0), .ref o]) ci_L_29 ct_X4_hasFailed cs_X4_hasFailed (CM.frame (k := fO g o v0) (J_hasFailed l g hX f hf_) hd) dL_hasFailed_4 (k0 := 7) rfl rfl (f_or_l hfs) rfl rfl (Nat.le_of_ble_eq_true rfl) (Nat.le_of_ble_eq_true rfl) (Nat.le_of_ble_eq_true rfl) (Nat.le_of_ble_eq_true rfl) (Nat.le_of_ble_eq_true rfl) (fun v h1 hp => ?_) (fun E h1 hp => ?_)
  · obtain ⟨h2, ⟨e0, rfl, hX1⟩, rfl, hd1⟩ := hp
    have ho1 : h2 o = none := hd1 o (by rw [fO_s]; exact fun z => by cases z)
    refine v_if_eqB F (pc := 7) (b := decide (c01 (inn f 0 1) = 0) && decide (σ 9 f = 1)) 14 dL_hasFailed_7 (by decide) (fun c_1 => ?_) (fun c_1 => ?_)
    · refine v_lconst F (pc := 14) 0 rfl dL_hasFailed_14 ?_
      refine v_last F (pc := 15) ho1 dL_hasFailed_15 ?_
      refine v_goto F (pc := 16) 22 dL_hasFailed_16 (by decide) ?_
      refine v_iconst F (pc := 22) dL_hasFailed_22 ?_
      exact v_iret F (pc := 23) dL_hasFailed_23 rfl rfl (Nat.le_of_ble_eq_true rfl) (Nat.le_of_ble_eq_true rfl) ⟨h2, lI 0, by rw [e0], rfl, ho1, hX1, fun _ => by rw [c_1]; rfl⟩
    · refine v_lconst F (pc := 10) 1 rfl dL_hasFailed_10 ?_
      refine v_goto F (pc := 11) 15 dL_hasFailed_11 (by decide) ?_
      refine v_last F (pc := 15) ho1 dL_hasFailed_15 ?_
      refine v_goto F (pc := 16) 22 dL_hasFailed_16 (by decide) ?_
      refine v_iconst F (pc := 22) dL_hasFailed_22 ?_
      exact v_iret F (pc := 23) dL_hasFailed_23 rfl rfl (Nat.le_of_ble_eq_true rfl) (Nat.le_of_ble_eq_true rfl) ⟨h2, lI 1, by rw [e0], rfl, ho1, hX1, fun _ => by rw [c_1]; rfl⟩
  · obtain ⟨h2, ⟨hX1, hcase⟩, rfl, hd1⟩ := hp
    have ho1 : h2 o = none := hd1 o (by rw [fO_s]; exact fun z => by cases z)
    obtain ⟨e, rfl⟩ := hcase
    refine v_catch F (pc := 4) (hh := hL_hasFailed) htab [] ⟨0, 16, 19, 13⟩ [] rfl (fun z hz => absurd hz List.not_mem_nil) (by decide) (by decide) tk_L_13 tc_IllegalArgumentException (fun q => ?_)
    refine v_astore_n F (pc := 19) (lo' := [some (.ref x), some (.int (iI f)), some (.ref o), some (.ref q)]) dL_hasFailed_19 (Nat.le_of_ble_eq_true rfl) rfl ?_
    refine v_iconst F (pc := 20) dL_hasFailed_20 ?_
    exact v_iret F (pc := 21) dL_hasFailed_21 rfl rfl (Nat.le_of_ble_eq_true rfl) (Nat.le_of_ble_eq_true rfl) ⟨h2, v0, by rw [e], rfl, ho1, hX1, fun z => absurd (e.symm.trans z) (by decide)⟩
set_option maxRecDepth 100000 in
theorem KL_place (l : Launch) (g : gT) {x o : Nat} {h : fH} {σ : sT} (hX : SX g x h σ) (ho : h o = none) (v0 : Int64) (n p w c : Int) (hn_ : -2147483648 ≤ n ∧ n ≤ 2147483647) (hp_ : -2147483648 ≤ p ∧ p ≤ 2147483647) (hw_ : -2147483648 ≤ w ∧ w ≤ 2147483647) (hc_ : -2147483648 ≤ c ∧ c ≤ 2147483647) (hgv : σ 18 0 < 1000000) : CMW l g yL_place cL_place 7 (some .int) hL_place { frames := 13, cells := 6, slots := 181, locals := 224 } [.ref x, .int (iI n), .int (iI p), .int (iI w), .int (iI c), .ref o] (f_or h (fO g o v0)) (fun v1 h1 => ∃ (h2 : fH) (v2 : Int64), v1 = some (.int (iI (pl_c σ n p w c))) ∧ h1 = f_or h2 (fO g o v2) ∧ h2 o = none ∧ SX g x h2 (pl_s σ n p w c) ∧ (pl_c σ n p w c = 0 → v2 = (iI (pl_a σ n p w c)).toInt64)) := by
  refine CMW.of (lo := [some (.ref x), some (.int (iI n)), some (.int (iI p)), some (.int (iI w)), some (.int (iI c)), some (.ref o), none]) (by decide) (Nat.le_of_ble_eq_true rfl) (by simp [Value.category]) rfl ?_
  intro pX eX sX_ mX bX tX cX AX F htab hN
  have F : Fx pX l sX_ mX ([.ref x, .int (iI n), .int (iI p), .int (iI w), .int (iI c), .ref o] : List Value).toArray tX cX cL_place 7 (some .int) RL g AX := F
  obtain ⟨fs, hfs⟩ := SX.obj hX
  have hd : ∀ a, fO g o v0 a ≠ none → h a = none := fun a ha => by rw [fO_n ha]; exact ho
  refine v_aload F (pc := 0) dL_place_0 rfl ?_
  refine v_iconst F (pc := 2) dL_place_2 ?_
  refine v_aload_n F (pc := 3) dL_place_3 rfl ?_
  refine v_iload_n F (pc := 4) dL_place_4 rfl ?_
  refine v_iload_n F (pc := 5) dL_place_5 rfl ?_
  refine v_iload_n F (pc := 6) dL_place_6 rfl ?_
  refine v_iload F (pc := 7) dL_place_7 rfl ?_
  refine v_callV F (pc := 9) (As := [.int (iI n), .int (iI p), .int (iI w), .int (iI c)]) (rest := [.int (iI 0), .ref o]) ci_L_33 ct_X4_place cs_X4_place (CM.frame (k := fO g o v0) (J_place l g hX n p w c hn_ hp_ hw_ hc_ hgv) hd) dL_place_9 (k0 := 7) rfl rfl (f_or_l hfs) rfl rfl (Nat.le_of_ble_eq_true rfl) (Nat.le_of_ble_eq_true rfl) (Nat.le_of_ble_eq_true rfl) (Nat.le_of_ble_eq_true rfl) (Nat.le_of_ble_eq_true rfl) (fun v h1 hp => ?_) (fun E h1 hp => ?_)
  · obtain ⟨h2, ⟨e0, rfl, hX1⟩, rfl, hd1⟩ := hp
    have ho1 : h2 o = none := hd1 o (by rw [fO_s]; exact fun z => by cases z)
    refine v_i2l9 F (pc := 12) dL_place_12 ?_
    refine v_last F (pc := 13) ho1 dL_place_13 ?_
    refine v_goto F (pc := 14) 25 dL_place_14 (by decide) ?_
    refine v_iconst F (pc := 25) dL_place_25 ?_
    exact v_iret F (pc := 26) dL_place_26 rfl rfl (Nat.le_of_ble_eq_true rfl) (Nat.le_of_ble_eq_true rfl) ⟨h2, _, by rw [e0], rfl, ho1, hX1, fun _ => rfl⟩
  · obtain ⟨h2, ⟨hX1, hcase⟩, rfl, hd1⟩ := hp
    have ho1 : h2 o = none := hd1 o (by rw [fO_s]; exact fun z => by cases z)
    rcases hcase with ⟨e, rfl⟩ | ⟨e, rfl⟩
    · refine v_catch F (pc := 9) (hh := hL_place) htab [] ⟨0, 14, 17, 13⟩ [⟨0, 14, 21, 15⟩] rfl (fun z hz => absurd hz List.not_mem_nil) (by decide) (by decide) tk_L_13 tc_IllegalArgumentException (fun q => ?_)
      refine v_astore F (pc := 17) (lo' := [some (.ref x), some (.int (iI n)), some (.int (iI p)), some (.int (iI w)), some (.int (iI c)), some (.ref o), some (.ref q)]) dL_place_17 (Nat.le_of_ble_eq_true rfl) rfl ?_
      refine v_iconst F (pc := 19) dL_place_19 ?_
      exact v_iret F (pc := 20) dL_place_20 rfl rfl (Nat.le_of_ble_eq_true rfl) (Nat.le_of_ble_eq_true rfl) ⟨h2, v0, by rw [e], rfl, ho1, hX1, fun z => absurd (e.symm.trans z) (by decide)⟩
    · refine v_catch F (pc := 9) (hh := hL_place) htab [⟨0, 14, 17, 13⟩] ⟨0, 14, 21, 15⟩ [] rfl (fun z hz => by rw [List.mem_singleton] at hz; subst hz; exact ⟨by decide, _, tk_L_13, hN.1⟩) (by decide) (by decide) tk_L_15 tc_IllegalStateException (fun q => ?_)
      refine v_astore F (pc := 21) (lo' := [some (.ref x), some (.int (iI n)), some (.int (iI p)), some (.int (iI w)), some (.int (iI c)), some (.ref o), some (.ref q)]) dL_place_21 (Nat.le_of_ble_eq_true rfl) rfl ?_
      refine v_iconst F (pc := 23) dL_place_23 ?_
      exact v_iret F (pc := 24) dL_place_24 rfl rfl (Nat.le_of_ble_eq_true rfl) (Nat.le_of_ble_eq_true rfl) ⟨h2, v0, by rw [e], rfl, ho1, hX1, fun z => absurd (e.symm.trans z) (by decide)⟩
set_option maxRecDepth 100000 in
theorem KL_takeOut (l : Launch) (g : gT) {x o : Nat} {h : fH} {σ : sT} (hX : SX g x h σ) (ho : h o = none) (v0 : Int64) (num : Int) (hnum_ : -2147483648 ≤ num ∧ num ≤ 2147483647) : CMW l g yL_takeOut cL_takeOut 4 (some .int) hL_takeOut { frames := 12, cells := 1, slots := 6, locals := 185 } [.ref x, .int (iI num), .ref o] (f_or h (fO g o v0)) (fun v1 h1 => ∃ (h2 : fH) (v2 : Int64), v1 = some (.int (iI (fnd_c σ num))) ∧ h1 = f_or h2 (fO g o v2) ∧ h2 o = none ∧ SX g x h2 (tO_s σ num) ∧ (fnd_c σ num = 0 → v2 = (iI (tO_a σ num)).toInt64)) := by
  refine CMW.of (lo := [some (.ref x), some (.int (iI num)), some (.ref o), none]) (by decide) (Nat.le_of_ble_eq_true rfl) (by simp [Value.category]) rfl ?_
  intro pX eX sX_ mX bX tX cX AX F htab hN
  have F : Fx pX l sX_ mX ([.ref x, .int (iI num), .ref o] : List Value).toArray tX cX cL_takeOut 4 (some .int) RL g AX := F
  obtain ⟨fs, hfs⟩ := SX.obj hX
  have hd : ∀ a, fO g o v0 a ≠ none → h a = none := fun a ha => by rw [fO_n ha]; exact ho
  refine v_aload_n F (pc := 0) dL_takeOut_0 rfl ?_
  refine v_iconst F (pc := 1) dL_takeOut_1 ?_
  refine v_aload_n F (pc := 2) dL_takeOut_2 rfl ?_
  refine v_iload_n F (pc := 3) dL_takeOut_3 rfl ?_
  refine v_callV F (pc := 4) (As := [.int (iI num)]) (rest := [.int (iI 0), .ref o]) ci_L_36 ct_X4_takeOut cs_X4_takeOut (CM.frame (k := fO g o v0) (J_takeOut l g hX num hnum_) hd) dL_takeOut_4 (k0 := 7) rfl rfl (f_or_l hfs) rfl rfl (Nat.le_of_ble_eq_true rfl) (Nat.le_of_ble_eq_true rfl) (Nat.le_of_ble_eq_true rfl) (Nat.le_of_ble_eq_true rfl) (Nat.le_of_ble_eq_true rfl) (fun v h1 hp => ?_) (fun E h1 hp => ?_)
  · obtain ⟨h2, ⟨e0, rfl, hX1⟩, rfl, hd1⟩ := hp
    have ho1 : h2 o = none := hd1 o (by rw [fO_s]; exact fun z => by cases z)
    refine v_i2l9 F (pc := 7) dL_takeOut_7 ?_
    refine v_last F (pc := 8) ho1 dL_takeOut_8 ?_
    refine v_goto F (pc := 9) 15 dL_takeOut_9 (by decide) ?_
    refine v_iconst F (pc := 15) dL_takeOut_15 ?_
    exact v_iret F (pc := 16) dL_takeOut_16 rfl rfl (Nat.le_of_ble_eq_true rfl) (Nat.le_of_ble_eq_true rfl) ⟨h2, _, by rw [e0], rfl, ho1, hX1, fun _ => rfl⟩
  · obtain ⟨h2, ⟨hX1, hcase⟩, rfl, hd1⟩ := hp
    have ho1 : h2 o = none := hd1 o (by rw [fO_s]; exact fun z => by cases z)
    obtain ⟨e, rfl⟩ := hcase
    refine v_catch F (pc := 4) (hh := hL_takeOut) htab [] ⟨0, 9, 12, 39⟩ [] rfl (fun z hz => absurd hz List.not_mem_nil) (by decide) (by decide) tk_L_39 tc_IndexOutOfBoundsException (fun q => ?_)
    refine v_astore_n F (pc := 12) (lo' := [some (.ref x), some (.int (iI num)), some (.ref o), some (.ref q)]) dL_takeOut_12 (Nat.le_of_ble_eq_true rfl) rfl ?_
    refine v_iconst F (pc := 13) dL_takeOut_13 ?_
    exact v_iret F (pc := 14) dL_takeOut_14 rfl rfl (Nat.le_of_ble_eq_true rfl) (Nat.le_of_ble_eq_true rfl) ⟨h2, v0, by rw [e], rfl, ho1, hX1, fun z => absurd (e.symm.trans z) (by decide)⟩
set_option maxRecDepth 100000 in
theorem KL_cord (l : Launch) (g : gT) {x o : Nat} {h : fH} {σ : sT} (hX : SX g x h σ) (ho : h o = none) (v0 : Int64) (num c : Int) (hnum_ : -2147483648 ≤ num ∧ num ≤ 2147483647) (hc_ : -2147483648 ≤ c ∧ c ≤ 2147483647) : CMW l g yL_cord cL_cord 5 (some .int) hL_cord { frames := 13, cells := 3, slots := 18, locals := 207 } [.ref x, .int (iI num), .int (iI c), .ref o] (f_or h (fO g o v0)) (fun v1 h1 => ∃ (h2 : fH) (v2 : Int64), v1 = some (.int (iI (cd_c σ num c))) ∧ h1 = f_or h2 (fO g o v2) ∧ h2 o = none ∧ SX g x h2 (cd_s σ num c) ∧ (cd_c σ num c = 0 → v2 = (iI (cd_a σ num c)).toInt64)) := by
  refine CMW.of (lo := [some (.ref x), some (.int (iI num)), some (.int (iI c)), some (.ref o), none]) (by decide) (Nat.le_of_ble_eq_true rfl) (by simp [Value.category]) rfl ?_
  intro pX eX sX_ mX bX tX cX AX F htab hN
  have F : Fx pX l sX_ mX ([.ref x, .int (iI num), .int (iI c), .ref o] : List Value).toArray tX cX cL_cord 5 (some .int) RL g AX := F
  obtain ⟨fs, hfs⟩ := SX.obj hX
  have hd : ∀ a, fO g o v0 a ≠ none → h a = none := fun a ha => by rw [fO_n ha]; exact ho
  refine v_aload_n F (pc := 0) dL_cord_0 rfl ?_
  refine v_iconst F (pc := 1) dL_cord_1 ?_
  refine v_aload_n F (pc := 2) dL_cord_2 rfl ?_
  refine v_iload_n F (pc := 3) dL_cord_3 rfl ?_
  refine v_iload_n F (pc := 4) dL_cord_4 rfl ?_
  refine v_callV F (pc := 5) (As := [.int (iI num), .int (iI c)]) (rest := [.int (iI 0), .ref o]) ci_L_41 ct_X4_cord cs_X4_cord (CM.frame (k := fO g o v0) (J_cord l g hX num c hnum_ hc_) hd) dL_cord_5 (k0 := 7) rfl rfl (f_or_l hfs) rfl rfl (Nat.le_of_ble_eq_true rfl) (Nat.le_of_ble_eq_true rfl) (Nat.le_of_ble_eq_true rfl) (Nat.le_of_ble_eq_true rfl) (Nat.le_of_ble_eq_true rfl) (fun v h1 hp => ?_) (fun E h1 hp => ?_)
  · obtain ⟨h2, ⟨e0, rfl, hX1⟩, rfl, hd1⟩ := hp
    have ho1 : h2 o = none := hd1 o (by rw [fO_s]; exact fun z => by cases z)
    refine v_i2l9 F (pc := 8) dL_cord_8 ?_
    refine v_last F (pc := 9) ho1 dL_cord_9 ?_
    refine v_goto F (pc := 10) 25 dL_cord_10 (by decide) ?_
    refine v_iconst F (pc := 25) dL_cord_25 ?_
    exact v_iret F (pc := 26) dL_cord_26 rfl rfl (Nat.le_of_ble_eq_true rfl) (Nat.le_of_ble_eq_true rfl) ⟨h2, _, by rw [e0], rfl, ho1, hX1, fun _ => rfl⟩
  · obtain ⟨h2, ⟨hX1, hcase⟩, rfl, hd1⟩ := hp
    have ho1 : h2 o = none := hd1 o (by rw [fO_s]; exact fun z => by cases z)
    rcases hcase with ⟨e, rfl⟩ | ⟨e, rfl⟩ | ⟨e, rfl⟩
    · refine v_catch F (pc := 5) (hh := hL_cord) htab [] ⟨0, 10, 13, 39⟩ [⟨0, 10, 17, 13⟩, ⟨0, 10, 21, 15⟩] rfl (fun z hz => absurd hz List.not_mem_nil) (by decide) (by decide) tk_L_39 tc_IndexOutOfBoundsException (fun q => ?_)
      refine v_astore F (pc := 13) (lo' := [some (.ref x), some (.int (iI num)), some (.int (iI c)), some (.ref o), some (.ref q)]) dL_cord_13 (Nat.le_of_ble_eq_true rfl) rfl ?_
      refine v_iconst F (pc := 15) dL_cord_15 ?_
      exact v_iret F (pc := 16) dL_cord_16 rfl rfl (Nat.le_of_ble_eq_true rfl) (Nat.le_of_ble_eq_true rfl) ⟨h2, v0, by rw [e], rfl, ho1, hX1, fun z => absurd (e.symm.trans z) (by decide)⟩
    · refine v_catch F (pc := 5) (hh := hL_cord) htab [⟨0, 10, 13, 39⟩] ⟨0, 10, 17, 13⟩ [⟨0, 10, 21, 15⟩] rfl (fun z hz => by rw [List.mem_singleton] at hz; subst hz; exact ⟨by decide, _, tk_L_39, hN.2.1⟩) (by decide) (by decide) tk_L_13 tc_IllegalArgumentException (fun q => ?_)
      refine v_astore F (pc := 17) (lo' := [some (.ref x), some (.int (iI num)), some (.int (iI c)), some (.ref o), some (.ref q)]) dL_cord_17 (Nat.le_of_ble_eq_true rfl) rfl ?_
      refine v_iconst F (pc := 19) dL_cord_19 ?_
      exact v_iret F (pc := 20) dL_cord_20 rfl rfl (Nat.le_of_ble_eq_true rfl) (Nat.le_of_ble_eq_true rfl) ⟨h2, v0, by rw [e], rfl, ho1, hX1, fun z => absurd (e.symm.trans z) (by decide)⟩
    · refine v_catch F (pc := 5) (hh := hL_cord) htab [⟨0, 10, 13, 39⟩, ⟨0, 10, 17, 13⟩] ⟨0, 10, 21, 15⟩ [] rfl (fun z hz => by rcases List.mem_cons.mp hz with hz | hz; subst hz; exact ⟨by decide, _, tk_L_39, hN.2.2⟩; rw [List.mem_singleton] at hz; subst hz; exact ⟨by decide, _, tk_L_13, hN.1⟩) (by decide) (by decide) tk_L_15 tc_IllegalStateException (fun q => ?_)
      refine v_astore F (pc := 21) (lo' := [some (.ref x), some (.int (iI num)), some (.int (iI c)), some (.ref o), some (.ref q)]) dL_cord_21 (Nat.le_of_ble_eq_true rfl) rfl ?_
      refine v_iconst F (pc := 23) dL_cord_23 ?_
      exact v_iret F (pc := 24) dL_cord_24 rfl rfl (Nat.le_of_ble_eq_true rfl) (Nat.le_of_ble_eq_true rfl) ⟨h2, v0, by rw [e], rfl, ho1, hX1, fun z => absurd (e.symm.trans z) (by decide)⟩
set_option maxRecDepth 100000 in
theorem KL_rackOf (l : Launch) (g : gT) {x o : Nat} {h : fH} {σ : sT} (hX : SX g x h σ) (ho : h o = none) (v0 : Int64) (num : Int) (hnum_ : -2147483648 ≤ num ∧ num ≤ 2147483647) : CMW l g yL_rackOf cL_rackOf 4 (some .int) hL_rackOf { frames := 13, cells := 1, slots := 6, locals := 204 } [.ref x, .int (iI num), .ref o] (f_or h (fO g o v0)) (fun v1 h1 => ∃ (h2 : fH) (v2 : Int64), v1 = some (.int (iI (fnd_c σ num))) ∧ h1 = f_or h2 (fO g o v2) ∧ h2 o = none ∧ SX g x h2 (su σ 0 0 (fnd_c σ num)) ∧ (fnd_c σ num = 0 → v2 = (iI (if fnd_c σ num = 0 then σ 15 (m_find σ num) else 0)).toInt64)) := by
  refine CMW.of (lo := [some (.ref x), some (.int (iI num)), some (.ref o), none]) (by decide) (Nat.le_of_ble_eq_true rfl) (by simp [Value.category]) rfl ?_
  intro pX eX sX_ mX bX tX cX AX F htab hN
  have F : Fx pX l sX_ mX ([.ref x, .int (iI num), .ref o] : List Value).toArray tX cX cL_rackOf 4 (some .int) RL g AX := F
  obtain ⟨fs, hfs⟩ := SX.obj hX
  have hd : ∀ a, fO g o v0 a ≠ none → h a = none := fun a ha => by rw [fO_n ha]; exact ho
  refine v_aload_n F (pc := 0) dL_rackOf_0 rfl ?_
  refine v_iconst F (pc := 1) dL_rackOf_1 ?_
  refine v_aload_n F (pc := 2) dL_rackOf_2 rfl ?_
  refine v_iload_n F (pc := 3) dL_rackOf_3 rfl ?_
  refine v_callV F (pc := 4) (As := [.int (iI num)]) (rest := [.int (iI 0), .ref o]) ci_L_44 ct_X4_rackOf cs_X4_rackOf (CM.frame (k := fO g o v0) (J_rackOf l g hX num hnum_) hd) dL_rackOf_4 (k0 := 7) rfl rfl (f_or_l hfs) rfl rfl (Nat.le_of_ble_eq_true rfl) (Nat.le_of_ble_eq_true rfl) (Nat.le_of_ble_eq_true rfl) (Nat.le_of_ble_eq_true rfl) (Nat.le_of_ble_eq_true rfl) (fun v h1 hp => ?_) (fun E h1 hp => ?_)
  · obtain ⟨h2, ⟨e0, rfl, hX1⟩, rfl, hd1⟩ := hp
    have ho1 : h2 o = none := hd1 o (by rw [fO_s]; exact fun z => by cases z)
    refine v_i2l9 F (pc := 7) dL_rackOf_7 ?_
    refine v_last F (pc := 8) ho1 dL_rackOf_8 ?_
    refine v_goto F (pc := 9) 15 dL_rackOf_9 (by decide) ?_
    refine v_iconst F (pc := 15) dL_rackOf_15 ?_
    exact v_iret F (pc := 16) dL_rackOf_16 rfl rfl (Nat.le_of_ble_eq_true rfl) (Nat.le_of_ble_eq_true rfl) ⟨h2, _, by rw [e0], rfl, ho1, hX1, fun _ => rfl⟩
  · obtain ⟨h2, ⟨hX1, hcase⟩, rfl, hd1⟩ := hp
    have ho1 : h2 o = none := hd1 o (by rw [fO_s]; exact fun z => by cases z)
    obtain ⟨e, rfl⟩ := hcase
    refine v_catch F (pc := 4) (hh := hL_rackOf) htab [] ⟨0, 9, 12, 39⟩ [] rfl (fun z hz => absurd hz List.not_mem_nil) (by decide) (by decide) tk_L_39 tc_IndexOutOfBoundsException (fun q => ?_)
    refine v_astore_n F (pc := 12) (lo' := [some (.ref x), some (.int (iI num)), some (.ref o), some (.ref q)]) dL_rackOf_12 (Nat.le_of_ble_eq_true rfl) rfl ?_
    refine v_iconst F (pc := 13) dL_rackOf_13 ?_
    exact v_iret F (pc := 14) dL_rackOf_14 rfl rfl (Nat.le_of_ble_eq_true rfl) (Nat.le_of_ble_eq_true rfl) ⟨h2, v0, by rw [e], rfl, ho1, hX1, fun z => absurd (e.symm.trans z) (by decide)⟩
set_option maxRecDepth 100000 in
theorem KL_slotOf (l : Launch) (g : gT) {x o : Nat} {h : fH} {σ : sT} (hX : SX g x h σ) (ho : h o = none) (v0 : Int64) (num : Int) (hnum_ : -2147483648 ≤ num ∧ num ≤ 2147483647) : CMW l g yL_slotOf cL_slotOf 4 (some .int) hL_slotOf { frames := 13, cells := 1, slots := 6, locals := 204 } [.ref x, .int (iI num), .ref o] (f_or h (fO g o v0)) (fun v1 h1 => ∃ (h2 : fH) (v2 : Int64), v1 = some (.int (iI (fnd_c σ num))) ∧ h1 = f_or h2 (fO g o v2) ∧ h2 o = none ∧ SX g x h2 (su σ 0 0 (fnd_c σ num)) ∧ (fnd_c σ num = 0 → v2 = (iI (if fnd_c σ num = 0 then σ 16 (m_find σ num) else 0)).toInt64)) := by
  refine CMW.of (lo := [some (.ref x), some (.int (iI num)), some (.ref o), none]) (by decide) (Nat.le_of_ble_eq_true rfl) (by simp [Value.category]) rfl ?_
  intro pX eX sX_ mX bX tX cX AX F htab hN
  have F : Fx pX l sX_ mX ([.ref x, .int (iI num), .ref o] : List Value).toArray tX cX cL_slotOf 4 (some .int) RL g AX := F
  obtain ⟨fs, hfs⟩ := SX.obj hX
  have hd : ∀ a, fO g o v0 a ≠ none → h a = none := fun a ha => by rw [fO_n ha]; exact ho
  refine v_aload_n F (pc := 0) dL_slotOf_0 rfl ?_
  refine v_iconst F (pc := 1) dL_slotOf_1 ?_
  refine v_aload_n F (pc := 2) dL_slotOf_2 rfl ?_
  refine v_iload_n F (pc := 3) dL_slotOf_3 rfl ?_
  refine v_callV F (pc := 4) (As := [.int (iI num)]) (rest := [.int (iI 0), .ref o]) ci_L_47 ct_X4_slotOf cs_X4_slotOf (CM.frame (k := fO g o v0) (J_slotOf l g hX num hnum_) hd) dL_slotOf_4 (k0 := 7) rfl rfl (f_or_l hfs) rfl rfl (Nat.le_of_ble_eq_true rfl) (Nat.le_of_ble_eq_true rfl) (Nat.le_of_ble_eq_true rfl) (Nat.le_of_ble_eq_true rfl) (Nat.le_of_ble_eq_true rfl) (fun v h1 hp => ?_) (fun E h1 hp => ?_)
  · obtain ⟨h2, ⟨e0, rfl, hX1⟩, rfl, hd1⟩ := hp
    have ho1 : h2 o = none := hd1 o (by rw [fO_s]; exact fun z => by cases z)
    refine v_i2l9 F (pc := 7) dL_slotOf_7 ?_
    refine v_last F (pc := 8) ho1 dL_slotOf_8 ?_
    refine v_goto F (pc := 9) 15 dL_slotOf_9 (by decide) ?_
    refine v_iconst F (pc := 15) dL_slotOf_15 ?_
    exact v_iret F (pc := 16) dL_slotOf_16 rfl rfl (Nat.le_of_ble_eq_true rfl) (Nat.le_of_ble_eq_true rfl) ⟨h2, _, by rw [e0], rfl, ho1, hX1, fun _ => rfl⟩
  · obtain ⟨h2, ⟨hX1, hcase⟩, rfl, hd1⟩ := hp
    have ho1 : h2 o = none := hd1 o (by rw [fO_s]; exact fun z => by cases z)
    obtain ⟨e, rfl⟩ := hcase
    refine v_catch F (pc := 4) (hh := hL_slotOf) htab [] ⟨0, 9, 12, 39⟩ [] rfl (fun z hz => absurd hz List.not_mem_nil) (by decide) (by decide) tk_L_39 tc_IndexOutOfBoundsException (fun q => ?_)
    refine v_astore_n F (pc := 12) (lo' := [some (.ref x), some (.int (iI num)), some (.ref o), some (.ref q)]) dL_slotOf_12 (Nat.le_of_ble_eq_true rfl) rfl ?_
    refine v_iconst F (pc := 13) dL_slotOf_13 ?_
    exact v_iret F (pc := 14) dL_slotOf_14 rfl rfl (Nat.le_of_ble_eq_true rfl) (Nat.le_of_ble_eq_true rfl) ⟨h2, v0, by rw [e], rfl, ho1, hX1, fun z => absurd (e.symm.trans z) (by decide)⟩
set_option maxRecDepth 100000 in
theorem KL_isDark (l : Launch) (g : gT) {x o : Nat} {h : fH} {σ : sT} (hX : SX g x h σ) (ho : h o = none) (v0 : Int64) (num : Int) (hnum_ : -2147483648 ≤ num ∧ num ≤ 2147483647) : CMW l g yL_isDark cL_isDark 4 (some .int) hL_isDark { frames := 13, cells := 1, slots := 6, locals := 204 } [.ref x, .int (iI num), .ref o] (f_or h (fO g o v0)) (fun v1 h1 => ∃ (h2 : fH) (v2 : Int64), v1 = some (.int (iI (fnd_c σ num))) ∧ h1 = f_or h2 (fO g o v2) ∧ h2 o = none ∧ SX g x h2 (su σ 0 0 (fnd_c σ num)) ∧ (fnd_c σ num = 0 → v2 = lI (bI (decide (fnd_c σ num = 0) && m_dark σ (m_find σ num))))) := by
  refine CMW.of (lo := [some (.ref x), some (.int (iI num)), some (.ref o), none]) (by decide) (Nat.le_of_ble_eq_true rfl) (by simp [Value.category]) rfl ?_
  intro pX eX sX_ mX bX tX cX AX F htab hN
  have F : Fx pX l sX_ mX ([.ref x, .int (iI num), .ref o] : List Value).toArray tX cX cL_isDark 4 (some .int) RL g AX := F
  obtain ⟨fs, hfs⟩ := SX.obj hX
  have hd : ∀ a, fO g o v0 a ≠ none → h a = none := fun a ha => by rw [fO_n ha]; exact ho
  refine v_aload_n F (pc := 0) dL_isDark_0 rfl ?_
  refine v_iconst F (pc := 1) dL_isDark_1 ?_
  refine v_aload_n F (pc := 2) dL_isDark_2 rfl ?_
  refine v_iload_n F (pc := 3) dL_isDark_3 rfl ?_
  refine v_callV F (pc := 4) (As := [.int (iI num)]) (rest := [.int (iI 0), .ref o]) ci_L_50 ct_X4_isDark cs_X4_isDark (CM.frame (k := fO g o v0) (J_isDark l g hX num hnum_) hd) dL_isDark_4 (k0 := 7) rfl rfl (f_or_l hfs) rfl rfl (Nat.le_of_ble_eq_true rfl) (Nat.le_of_ble_eq_true rfl) (Nat.le_of_ble_eq_true rfl) (Nat.le_of_ble_eq_true rfl) (Nat.le_of_ble_eq_true rfl) (fun v h1 hp => ?_) (fun E h1 hp => ?_)
  · obtain ⟨h2, ⟨e0, rfl, hX1⟩, rfl, hd1⟩ := hp
    have ho1 : h2 o = none := hd1 o (by rw [fO_s]; exact fun z => by cases z)
    refine v_if_eqB F (pc := 7) (b := decide (fnd_c σ num = 0) && m_dark σ (m_find σ num)) 14 dL_isDark_7 (by decide) (fun c_1 => ?_) (fun c_1 => ?_)
    · refine v_lconst F (pc := 14) 0 rfl dL_isDark_14 ?_
      refine v_last F (pc := 15) ho1 dL_isDark_15 ?_
      refine v_goto F (pc := 16) 22 dL_isDark_16 (by decide) ?_
      refine v_iconst F (pc := 22) dL_isDark_22 ?_
      exact v_iret F (pc := 23) dL_isDark_23 rfl rfl (Nat.le_of_ble_eq_true rfl) (Nat.le_of_ble_eq_true rfl) ⟨h2, lI 0, by rw [e0], rfl, ho1, hX1, fun _ => by rw [c_1]; rfl⟩
    · refine v_lconst F (pc := 10) 1 rfl dL_isDark_10 ?_
      refine v_goto F (pc := 11) 15 dL_isDark_11 (by decide) ?_
      refine v_last F (pc := 15) ho1 dL_isDark_15 ?_
      refine v_goto F (pc := 16) 22 dL_isDark_16 (by decide) ?_
      refine v_iconst F (pc := 22) dL_isDark_22 ?_
      exact v_iret F (pc := 23) dL_isDark_23 rfl rfl (Nat.le_of_ble_eq_true rfl) (Nat.le_of_ble_eq_true rfl) ⟨h2, lI 1, by rw [e0], rfl, ho1, hX1, fun _ => by rw [c_1]; rfl⟩
  · obtain ⟨h2, ⟨hX1, hcase⟩, rfl, hd1⟩ := hp
    have ho1 : h2 o = none := hd1 o (by rw [fO_s]; exact fun z => by cases z)
    obtain ⟨e, rfl⟩ := hcase
    refine v_catch F (pc := 4) (hh := hL_isDark) htab [] ⟨0, 16, 19, 39⟩ [] rfl (fun z hz => absurd hz List.not_mem_nil) (by decide) (by decide) tk_L_39 tc_IndexOutOfBoundsException (fun q => ?_)
    refine v_astore_n F (pc := 19) (lo' := [some (.ref x), some (.int (iI num)), some (.ref o), some (.ref q)]) dL_isDark_19 (Nat.le_of_ble_eq_true rfl) rfl ?_
    refine v_iconst F (pc := 20) dL_isDark_20 ?_
    exact v_iret F (pc := 21) dL_isDark_21 rfl rfl (Nat.le_of_ble_eq_true rfl) (Nat.le_of_ble_eq_true rfl) ⟨h2, v0, by rw [e], rfl, ho1, hX1, fun z => absurd (e.symm.trans z) (by decide)⟩
set_option maxRecDepth 100000 in
theorem KL_machineAt (l : Launch) (g : gT) {x o : Nat} {h : fH} {σ : sT} (hX : SX g x h σ) (ho : h o = none) (v0 : Int64) (k s : Int) (hk_ : -2147483648 ≤ k ∧ k ≤ 2147483647) (hs_ : -2147483648 ≤ s ∧ s ≤ 2147483647) : CMW l g yL_machineAt cL_machineAt 5 (some .int) hL_machineAt { frames := 12, cells := 2, slots := 12, locals := 184 } [.ref x, .int (iI k), .int (iI s), .ref o] (f_or h (fO g o v0)) (fun v1 h1 => ∃ (h2 : fH) (v2 : Int64), v1 = some (.int (iI (c01 (mA_ok σ k s)))) ∧ h1 = f_or h2 (fO g o v2) ∧ h2 o = none ∧ SX g x h2 (su σ 0 0 (c01 (mA_ok σ k s))) ∧ (c01 (mA_ok σ k s) = 0 → v2 = (iI (mA_a σ k s)).toInt64)) := by
  refine CMW.of (lo := [some (.ref x), some (.int (iI k)), some (.int (iI s)), some (.ref o), none]) (by decide) (Nat.le_of_ble_eq_true rfl) (by simp [Value.category]) rfl ?_
  intro pX eX sX_ mX bX tX cX AX F htab hN
  have F : Fx pX l sX_ mX ([.ref x, .int (iI k), .int (iI s), .ref o] : List Value).toArray tX cX cL_machineAt 5 (some .int) RL g AX := F
  obtain ⟨fs, hfs⟩ := SX.obj hX
  have hd : ∀ a, fO g o v0 a ≠ none → h a = none := fun a ha => by rw [fO_n ha]; exact ho
  refine v_aload_n F (pc := 0) dL_machineAt_0 rfl ?_
  refine v_iconst F (pc := 1) dL_machineAt_1 ?_
  refine v_aload_n F (pc := 2) dL_machineAt_2 rfl ?_
  refine v_iload_n F (pc := 3) dL_machineAt_3 rfl ?_
  refine v_iload_n F (pc := 4) dL_machineAt_4 rfl ?_
  refine v_callV F (pc := 5) (As := [.int (iI k), .int (iI s)]) (rest := [.int (iI 0), .ref o]) ci_L_53 ct_X4_machineAt cs_X4_machineAt (CM.frame (k := fO g o v0) (J_machineAt l g hX k s hk_ hs_) hd) dL_machineAt_5 (k0 := 7) rfl rfl (f_or_l hfs) rfl rfl (Nat.le_of_ble_eq_true rfl) (Nat.le_of_ble_eq_true rfl) (Nat.le_of_ble_eq_true rfl) (Nat.le_of_ble_eq_true rfl) (Nat.le_of_ble_eq_true rfl) (fun v h1 hp => ?_) (fun E h1 hp => ?_)
  · obtain ⟨h2, ⟨e0, rfl, hX1⟩, rfl, hd1⟩ := hp
    have ho1 : h2 o = none := hd1 o (by rw [fO_s]; exact fun z => by cases z)
    refine v_i2l9 F (pc := 8) dL_machineAt_8 ?_
    refine v_last F (pc := 9) ho1 dL_machineAt_9 ?_
    refine v_goto F (pc := 10) 17 dL_machineAt_10 (by decide) ?_
    refine v_iconst F (pc := 17) dL_machineAt_17 ?_
    exact v_iret F (pc := 18) dL_machineAt_18 rfl rfl (Nat.le_of_ble_eq_true rfl) (Nat.le_of_ble_eq_true rfl) ⟨h2, _, by rw [e0], rfl, ho1, hX1, fun _ => rfl⟩
  · obtain ⟨h2, ⟨hX1, hcase⟩, rfl, hd1⟩ := hp
    have ho1 : h2 o = none := hd1 o (by rw [fO_s]; exact fun z => by cases z)
    obtain ⟨e, rfl⟩ := hcase
    refine v_catch F (pc := 5) (hh := hL_machineAt) htab [] ⟨0, 10, 13, 39⟩ [] rfl (fun z hz => absurd hz List.not_mem_nil) (by decide) (by decide) tk_L_39 tc_IndexOutOfBoundsException (fun q => ?_)
    refine v_astore F (pc := 13) (lo' := [some (.ref x), some (.int (iI k)), some (.int (iI s)), some (.ref o), some (.ref q)]) dL_machineAt_13 (Nat.le_of_ble_eq_true rfl) rfl ?_
    refine v_iconst F (pc := 15) dL_machineAt_15 ?_
    exact v_iret F (pc := 16) dL_machineAt_16 rfl rfl (Nat.le_of_ble_eq_true rfl) (Nat.le_of_ble_eq_true rfl) ⟨h2, v0, by rw [e], rfl, ho1, hX1, fun z => absurd (e.symm.trans z) (by decide)⟩
set_option maxRecDepth 100000 in
theorem KL_next (l : Launch) (g : gT) {x o : Nat} {h : fH} {σ : sT} (hX : SX g x h σ) (ho : h o = none) (v0 : Int64) (num : Int) (hnum_ : -2147483648 ≤ num ∧ num ≤ 2147483647) : CMW l g yL_next cL_next 4 (some .int) hL_next { frames := 13, cells := 1, slots := 6, locals := 205 } [.ref x, .int (iI num), .ref o] (f_or h (fO g o v0)) (fun v1 h1 => ∃ (h2 : fH) (v2 : Int64), v1 = some (.int (iI (nx_c σ num))) ∧ h1 = f_or h2 (fO g o v2) ∧ h2 o = none ∧ SX g x h2 (su σ 0 0 (nx_c σ num)) ∧ (nx_c σ num = 0 → v2 = (iI (nx_a σ num)).toInt64)) := by
  refine CMW.of (lo := [some (.ref x), some (.int (iI num)), some (.ref o), none]) (by decide) (Nat.le_of_ble_eq_true rfl) (by simp [Value.category]) rfl ?_
  intro pX eX sX_ mX bX tX cX AX F htab hN
  have F : Fx pX l sX_ mX ([.ref x, .int (iI num), .ref o] : List Value).toArray tX cX cL_next 4 (some .int) RL g AX := F
  obtain ⟨fs, hfs⟩ := SX.obj hX
  have hd : ∀ a, fO g o v0 a ≠ none → h a = none := fun a ha => by rw [fO_n ha]; exact ho
  refine v_aload_n F (pc := 0) dL_next_0 rfl ?_
  refine v_iconst F (pc := 1) dL_next_1 ?_
  refine v_aload_n F (pc := 2) dL_next_2 rfl ?_
  refine v_iload_n F (pc := 3) dL_next_3 rfl ?_
  refine v_callV F (pc := 4) (As := [.int (iI num)]) (rest := [.int (iI 0), .ref o]) ci_L_56 ct_X4_next cs_X4_next (CM.frame (k := fO g o v0) (J_next l g hX num hnum_) hd) dL_next_4 (k0 := 7) rfl rfl (f_or_l hfs) rfl rfl (Nat.le_of_ble_eq_true rfl) (Nat.le_of_ble_eq_true rfl) (Nat.le_of_ble_eq_true rfl) (Nat.le_of_ble_eq_true rfl) (Nat.le_of_ble_eq_true rfl) (fun v h1 hp => ?_) (fun E h1 hp => ?_)
  · obtain ⟨h2, ⟨e0, rfl, hX1⟩, rfl, hd1⟩ := hp
    have ho1 : h2 o = none := hd1 o (by rw [fO_s]; exact fun z => by cases z)
    refine v_i2l9 F (pc := 7) dL_next_7 ?_
    refine v_last F (pc := 8) ho1 dL_next_8 ?_
    refine v_goto F (pc := 9) 15 dL_next_9 (by decide) ?_
    refine v_iconst F (pc := 15) dL_next_15 ?_
    exact v_iret F (pc := 16) dL_next_16 rfl rfl (Nat.le_of_ble_eq_true rfl) (Nat.le_of_ble_eq_true rfl) ⟨h2, _, by rw [e0], rfl, ho1, hX1, fun _ => rfl⟩
  · obtain ⟨h2, ⟨hX1, hcase⟩, rfl, hd1⟩ := hp
    have ho1 : h2 o = none := hd1 o (by rw [fO_s]; exact fun z => by cases z)
    obtain ⟨e, rfl⟩ := hcase
    refine v_catch F (pc := 4) (hh := hL_next) htab [] ⟨0, 9, 12, 39⟩ [] rfl (fun z hz => absurd hz List.not_mem_nil) (by decide) (by decide) tk_L_39 tc_IndexOutOfBoundsException (fun q => ?_)
    refine v_astore_n F (pc := 12) (lo' := [some (.ref x), some (.int (iI num)), some (.ref o), some (.ref q)]) dL_next_12 (Nat.le_of_ble_eq_true rfl) rfl ?_
    refine v_iconst F (pc := 13) dL_next_13 ?_
    exact v_iret F (pc := 14) dL_next_14 rfl rfl (Nat.le_of_ble_eq_true rfl) (Nat.le_of_ble_eq_true rfl) ⟨h2, v0, by rw [e], rfl, ho1, hX1, fun z => absurd (e.symm.trans z) (by decide)⟩
set_option maxRecDepth 100000 in
theorem KL_powerOf (l : Launch) (g : gT) {x o : Nat} {h : fH} {σ : sT} (hX : SX g x h σ) (ho : h o = none) (v0 : Int64) (k f : Int) (hk_ : -2147483648 ≤ k ∧ k ≤ 2147483647) (hf_ : -2147483648 ≤ f ∧ f ≤ 2147483647) : CMW l g yL_powerOf cL_powerOf 5 (some .int) hL_powerOf { frames := 13, cells := 2, slots := 12, locals := 207 } [.ref x, .int (iI k), .int (iI f), .ref o] (f_or h (fO g o v0)) (fun v1 h1 => ∃ (h2 : fH) (v2 : Int64), v1 = some (.int (iI (rf_c σ k f))) ∧ h1 = f_or h2 (fO g o v2) ∧ h2 o = none ∧ SX g x h2 (su σ 0 0 (rf_c σ k f)) ∧ (rf_c σ k f = 0 → v2 = (iI (pO_a σ k f)).toInt64)) := by
  refine CMW.of (lo := [some (.ref x), some (.int (iI k)), some (.int (iI f)), some (.ref o), none]) (by decide) (Nat.le_of_ble_eq_true rfl) (by simp [Value.category]) rfl ?_
  intro pX eX sX_ mX bX tX cX AX F htab hN
  have F : Fx pX l sX_ mX ([.ref x, .int (iI k), .int (iI f), .ref o] : List Value).toArray tX cX cL_powerOf 5 (some .int) RL g AX := F
  obtain ⟨fs, hfs⟩ := SX.obj hX
  have hd : ∀ a, fO g o v0 a ≠ none → h a = none := fun a ha => by rw [fO_n ha]; exact ho
  refine v_aload_n F (pc := 0) dL_powerOf_0 rfl ?_
  refine v_iconst F (pc := 1) dL_powerOf_1 ?_
  refine v_aload_n F (pc := 2) dL_powerOf_2 rfl ?_
  refine v_iload_n F (pc := 3) dL_powerOf_3 rfl ?_
  refine v_iload_n F (pc := 4) dL_powerOf_4 rfl ?_
  refine v_callV F (pc := 5) (As := [.int (iI k), .int (iI f)]) (rest := [.int (iI 0), .ref o]) ci_L_59 ct_X4_powerOf cs_X4_powerOf (CM.frame (k := fO g o v0) (J_powerOf l g hX k f hk_ hf_) hd) dL_powerOf_5 (k0 := 7) rfl rfl (f_or_l hfs) rfl rfl (Nat.le_of_ble_eq_true rfl) (Nat.le_of_ble_eq_true rfl) (Nat.le_of_ble_eq_true rfl) (Nat.le_of_ble_eq_true rfl) (Nat.le_of_ble_eq_true rfl) (fun v h1 hp => ?_) (fun E h1 hp => ?_)
  · obtain ⟨h2, ⟨e0, rfl, hX1⟩, rfl, hd1⟩ := hp
    have ho1 : h2 o = none := hd1 o (by rw [fO_s]; exact fun z => by cases z)
    refine v_i2l9 F (pc := 8) dL_powerOf_8 ?_
    refine v_last F (pc := 9) ho1 dL_powerOf_9 ?_
    refine v_goto F (pc := 10) 21 dL_powerOf_10 (by decide) ?_
    refine v_iconst F (pc := 21) dL_powerOf_21 ?_
    exact v_iret F (pc := 22) dL_powerOf_22 rfl rfl (Nat.le_of_ble_eq_true rfl) (Nat.le_of_ble_eq_true rfl) ⟨h2, _, by rw [e0], rfl, ho1, hX1, fun _ => rfl⟩
  · obtain ⟨h2, ⟨hX1, hcase⟩, rfl, hd1⟩ := hp
    have ho1 : h2 o = none := hd1 o (by rw [fO_s]; exact fun z => by cases z)
    rcases hcase with ⟨e, rfl⟩ | ⟨e, rfl⟩
    · refine v_catch F (pc := 5) (hh := hL_powerOf) htab [] ⟨0, 10, 13, 39⟩ [⟨0, 10, 17, 13⟩] rfl (fun z hz => absurd hz List.not_mem_nil) (by decide) (by decide) tk_L_39 tc_IndexOutOfBoundsException (fun q => ?_)
      refine v_astore F (pc := 13) (lo' := [some (.ref x), some (.int (iI k)), some (.int (iI f)), some (.ref o), some (.ref q)]) dL_powerOf_13 (Nat.le_of_ble_eq_true rfl) rfl ?_
      refine v_iconst F (pc := 15) dL_powerOf_15 ?_
      exact v_iret F (pc := 16) dL_powerOf_16 rfl rfl (Nat.le_of_ble_eq_true rfl) (Nat.le_of_ble_eq_true rfl) ⟨h2, v0, by rw [e], rfl, ho1, hX1, fun z => absurd (e.symm.trans z) (by decide)⟩
    · refine v_catch F (pc := 5) (hh := hL_powerOf) htab [⟨0, 10, 13, 39⟩] ⟨0, 10, 17, 13⟩ [] rfl (fun z hz => by rw [List.mem_singleton] at hz; subst hz; exact ⟨by decide, _, tk_L_39, hN.2.1⟩) (by decide) (by decide) tk_L_13 tc_IllegalArgumentException (fun q => ?_)
      refine v_astore F (pc := 17) (lo' := [some (.ref x), some (.int (iI k)), some (.int (iI f)), some (.ref o), some (.ref q)]) dL_powerOf_17 (Nat.le_of_ble_eq_true rfl) rfl ?_
      refine v_iconst F (pc := 19) dL_powerOf_19 ?_
      exact v_iret F (pc := 20) dL_powerOf_20 rfl rfl (Nat.le_of_ble_eq_true rfl) (Nat.le_of_ble_eq_true rfl) ⟨h2, v0, by rw [e], rfl, ho1, hX1, fun z => absurd (e.symm.trans z) (by decide)⟩
set_option maxRecDepth 100000 in
theorem KL_worstOf (l : Launch) (g : gT) {x o : Nat} {h : fH} {σ : sT} (hX : SX g x h σ) (ho : h o = none) (v0 : Int64) (k f : Int) (hk_ : -2147483648 ≤ k ∧ k ≤ 2147483647) (hf_ : -2147483648 ≤ f ∧ f ≤ 2147483647) : CMW l g yL_worstOf cL_worstOf 5 (some .int) hL_worstOf { frames := 13, cells := 2, slots := 12, locals := 204 } [.ref x, .int (iI k), .int (iI f), .ref o] (f_or h (fO g o v0)) (fun v1 h1 => ∃ (h2 : fH) (v2 : Int64), v1 = some (.int (iI (rf_c σ k f))) ∧ h1 = f_or h2 (fO g o v2) ∧ h2 o = none ∧ SX g x h2 (su σ 0 0 (rf_c σ k f)) ∧ (rf_c σ k f = 0 → v2 = (iI (if rf_c σ k f = 0 then m_worst σ k f else 0)).toInt64)) := by
  refine CMW.of (lo := [some (.ref x), some (.int (iI k)), some (.int (iI f)), some (.ref o), none]) (by decide) (Nat.le_of_ble_eq_true rfl) (by simp [Value.category]) rfl ?_
  intro pX eX sX_ mX bX tX cX AX F htab hN
  have F : Fx pX l sX_ mX ([.ref x, .int (iI k), .int (iI f), .ref o] : List Value).toArray tX cX cL_worstOf 5 (some .int) RL g AX := F
  obtain ⟨fs, hfs⟩ := SX.obj hX
  have hd : ∀ a, fO g o v0 a ≠ none → h a = none := fun a ha => by rw [fO_n ha]; exact ho
  refine v_aload_n F (pc := 0) dL_worstOf_0 rfl ?_
  refine v_iconst F (pc := 1) dL_worstOf_1 ?_
  refine v_aload_n F (pc := 2) dL_worstOf_2 rfl ?_
  refine v_iload_n F (pc := 3) dL_worstOf_3 rfl ?_
  refine v_iload_n F (pc := 4) dL_worstOf_4 rfl ?_
  refine v_callV F (pc := 5) (As := [.int (iI k), .int (iI f)]) (rest := [.int (iI 0), .ref o]) ci_L_62 ct_X4_worstOf cs_X4_worstOf (CM.frame (k := fO g o v0) (J_worstOf l g hX k f hk_ hf_) hd) dL_worstOf_5 (k0 := 7) rfl rfl (f_or_l hfs) rfl rfl (Nat.le_of_ble_eq_true rfl) (Nat.le_of_ble_eq_true rfl) (Nat.le_of_ble_eq_true rfl) (Nat.le_of_ble_eq_true rfl) (Nat.le_of_ble_eq_true rfl) (fun v h1 hp => ?_) (fun E h1 hp => ?_)
  · obtain ⟨h2, ⟨e0, rfl, hX1⟩, rfl, hd1⟩ := hp
    have ho1 : h2 o = none := hd1 o (by rw [fO_s]; exact fun z => by cases z)
    refine v_i2l9 F (pc := 8) dL_worstOf_8 ?_
    refine v_last F (pc := 9) ho1 dL_worstOf_9 ?_
    refine v_goto F (pc := 10) 21 dL_worstOf_10 (by decide) ?_
    refine v_iconst F (pc := 21) dL_worstOf_21 ?_
    exact v_iret F (pc := 22) dL_worstOf_22 rfl rfl (Nat.le_of_ble_eq_true rfl) (Nat.le_of_ble_eq_true rfl) ⟨h2, _, by rw [e0], rfl, ho1, hX1, fun _ => rfl⟩
  · obtain ⟨h2, ⟨hX1, hcase⟩, rfl, hd1⟩ := hp
    have ho1 : h2 o = none := hd1 o (by rw [fO_s]; exact fun z => by cases z)
    rcases hcase with ⟨e, rfl⟩ | ⟨e, rfl⟩
    · refine v_catch F (pc := 5) (hh := hL_worstOf) htab [] ⟨0, 10, 13, 39⟩ [⟨0, 10, 17, 13⟩] rfl (fun z hz => absurd hz List.not_mem_nil) (by decide) (by decide) tk_L_39 tc_IndexOutOfBoundsException (fun q => ?_)
      refine v_astore F (pc := 13) (lo' := [some (.ref x), some (.int (iI k)), some (.int (iI f)), some (.ref o), some (.ref q)]) dL_worstOf_13 (Nat.le_of_ble_eq_true rfl) rfl ?_
      refine v_iconst F (pc := 15) dL_worstOf_15 ?_
      exact v_iret F (pc := 16) dL_worstOf_16 rfl rfl (Nat.le_of_ble_eq_true rfl) (Nat.le_of_ble_eq_true rfl) ⟨h2, v0, by rw [e], rfl, ho1, hX1, fun z => absurd (e.symm.trans z) (by decide)⟩
    · refine v_catch F (pc := 5) (hh := hL_worstOf) htab [⟨0, 10, 13, 39⟩] ⟨0, 10, 17, 13⟩ [] rfl (fun z hz => by rw [List.mem_singleton] at hz; subst hz; exact ⟨by decide, _, tk_L_39, hN.2.1⟩) (by decide) (by decide) tk_L_13 tc_IllegalArgumentException (fun q => ?_)
      refine v_astore F (pc := 17) (lo' := [some (.ref x), some (.int (iI k)), some (.int (iI f)), some (.ref o), some (.ref q)]) dL_worstOf_17 (Nat.le_of_ble_eq_true rfl) rfl ?_
      refine v_iconst F (pc := 19) dL_worstOf_19 ?_
      exact v_iret F (pc := 20) dL_worstOf_20 rfl rfl (Nat.le_of_ble_eq_true rfl) (Nat.le_of_ble_eq_true rfl) ⟨h2, v0, by rw [e], rfl, ho1, hX1, fun z => absurd (e.symm.trans z) (by decide)⟩
set_option maxRecDepth 100000 in
theorem KL_weightOf (l : Launch) (g : gT) {x o : Nat} {h : fH} {σ : sT} (hX : SX g x h σ) (ho : h o = none) (v0 : Int64) (k : Int) (hk_ : -2147483648 ≤ k ∧ k ≤ 2147483647) : CMW l g yL_weightOf cL_weightOf 4 (some .int) hL_weightOf { frames := 12, cells := 1, slots := 6, locals := 182 } [.ref x, .int (iI k), .ref o] (f_or h (fO g o v0)) (fun v1 h1 => ∃ (h2 : fH) (v2 : Int64), v1 = some (.int (iI (c01 (okR σ k)))) ∧ h1 = f_or h2 (fO g o v2) ∧ h2 o = none ∧ SX g x h2 (su σ 0 0 (c01 (okR σ k))) ∧ (c01 (okR σ k) = 0 → v2 = (iI (if c01 (okR σ k) = 0 then m_weighs σ k else 0)).toInt64)) := by
  refine CMW.of (lo := [some (.ref x), some (.int (iI k)), some (.ref o), none]) (by decide) (Nat.le_of_ble_eq_true rfl) (by simp [Value.category]) rfl ?_
  intro pX eX sX_ mX bX tX cX AX F htab hN
  have F : Fx pX l sX_ mX ([.ref x, .int (iI k), .ref o] : List Value).toArray tX cX cL_weightOf 4 (some .int) RL g AX := F
  obtain ⟨fs, hfs⟩ := SX.obj hX
  have hd : ∀ a, fO g o v0 a ≠ none → h a = none := fun a ha => by rw [fO_n ha]; exact ho
  refine v_aload_n F (pc := 0) dL_weightOf_0 rfl ?_
  refine v_iconst F (pc := 1) dL_weightOf_1 ?_
  refine v_aload_n F (pc := 2) dL_weightOf_2 rfl ?_
  refine v_iload_n F (pc := 3) dL_weightOf_3 rfl ?_
  refine v_callV F (pc := 4) (As := [.int (iI k)]) (rest := [.int (iI 0), .ref o]) ci_L_65 ct_X4_weightOf cs_X4_weightOf (CM.frame (k := fO g o v0) (J_weightOf l g hX k hk_) hd) dL_weightOf_4 (k0 := 7) rfl rfl (f_or_l hfs) rfl rfl (Nat.le_of_ble_eq_true rfl) (Nat.le_of_ble_eq_true rfl) (Nat.le_of_ble_eq_true rfl) (Nat.le_of_ble_eq_true rfl) (Nat.le_of_ble_eq_true rfl) (fun v h1 hp => ?_) (fun E h1 hp => ?_)
  · obtain ⟨h2, ⟨e0, rfl, hX1⟩, rfl, hd1⟩ := hp
    have ho1 : h2 o = none := hd1 o (by rw [fO_s]; exact fun z => by cases z)
    refine v_i2l9 F (pc := 7) dL_weightOf_7 ?_
    refine v_last F (pc := 8) ho1 dL_weightOf_8 ?_
    refine v_goto F (pc := 9) 15 dL_weightOf_9 (by decide) ?_
    refine v_iconst F (pc := 15) dL_weightOf_15 ?_
    exact v_iret F (pc := 16) dL_weightOf_16 rfl rfl (Nat.le_of_ble_eq_true rfl) (Nat.le_of_ble_eq_true rfl) ⟨h2, _, by rw [e0], rfl, ho1, hX1, fun _ => rfl⟩
  · obtain ⟨h2, ⟨hX1, hcase⟩, rfl, hd1⟩ := hp
    have ho1 : h2 o = none := hd1 o (by rw [fO_s]; exact fun z => by cases z)
    obtain ⟨e, rfl⟩ := hcase
    refine v_catch F (pc := 4) (hh := hL_weightOf) htab [] ⟨0, 9, 12, 39⟩ [] rfl (fun z hz => absurd hz List.not_mem_nil) (by decide) (by decide) tk_L_39 tc_IndexOutOfBoundsException (fun q => ?_)
    refine v_astore_n F (pc := 12) (lo' := [some (.ref x), some (.int (iI k)), some (.ref o), some (.ref q)]) dL_weightOf_12 (Nat.le_of_ble_eq_true rfl) rfl ?_
    refine v_iconst F (pc := 13) dL_weightOf_13 ?_
    exact v_iret F (pc := 14) dL_weightOf_14 rfl rfl (Nat.le_of_ble_eq_true rfl) (Nat.le_of_ble_eq_true rfl) ⟨h2, v0, by rw [e], rfl, ho1, hX1, fun z => absurd (e.symm.trans z) (by decide)⟩
set_option maxRecDepth 100000 in
theorem KL_heatOf (l : Launch) (g : gT) {x o : Nat} {h : fH} {σ : sT} (hX : SX g x h σ) (ho : h o = none) (v0 : Int64) (row : Int) (hrow_ : -2147483648 ≤ row ∧ row ≤ 2147483647) : CMW l g yL_heatOf cL_heatOf 4 (some .int) hL_heatOf { frames := 12, cells := 1, slots := 6, locals := 186 } [.ref x, .int (iI row), .ref o] (f_or h (fO g o v0)) (fun v1 h1 => ∃ (h2 : fH) (v2 : Int64), v1 = some (.int (iI (c01 (inn row 0 3)))) ∧ h1 = f_or h2 (fO g o v2) ∧ h2 o = none ∧ SX g x h2 (su σ 0 0 (c01 (inn row 0 3))) ∧ (c01 (inn row 0 3) = 0 → v2 = (iI (hO_a σ row)).toInt64)) := by
  refine CMW.of (lo := [some (.ref x), some (.int (iI row)), some (.ref o), none]) (by decide) (Nat.le_of_ble_eq_true rfl) (by simp [Value.category]) rfl ?_
  intro pX eX sX_ mX bX tX cX AX F htab hN
  have F : Fx pX l sX_ mX ([.ref x, .int (iI row), .ref o] : List Value).toArray tX cX cL_heatOf 4 (some .int) RL g AX := F
  obtain ⟨fs, hfs⟩ := SX.obj hX
  have hd : ∀ a, fO g o v0 a ≠ none → h a = none := fun a ha => by rw [fO_n ha]; exact ho
  refine v_aload_n F (pc := 0) dL_heatOf_0 rfl ?_
  refine v_iconst F (pc := 1) dL_heatOf_1 ?_
  refine v_aload_n F (pc := 2) dL_heatOf_2 rfl ?_
  refine v_iload_n F (pc := 3) dL_heatOf_3 rfl ?_
  refine v_callV F (pc := 4) (As := [.int (iI row)]) (rest := [.int (iI 0), .ref o]) ci_L_68 ct_X4_heatOf cs_X4_heatOf (CM.frame (k := fO g o v0) (J_heatOf l g hX row hrow_) hd) dL_heatOf_4 (k0 := 7) rfl rfl (f_or_l hfs) rfl rfl (Nat.le_of_ble_eq_true rfl) (Nat.le_of_ble_eq_true rfl) (Nat.le_of_ble_eq_true rfl) (Nat.le_of_ble_eq_true rfl) (Nat.le_of_ble_eq_true rfl) (fun v h1 hp => ?_) (fun E h1 hp => ?_)
  · obtain ⟨h2, ⟨e0, rfl, hX1⟩, rfl, hd1⟩ := hp
    have ho1 : h2 o = none := hd1 o (by rw [fO_s]; exact fun z => by cases z)
    refine v_i2l9 F (pc := 7) dL_heatOf_7 ?_
    refine v_last F (pc := 8) ho1 dL_heatOf_8 ?_
    refine v_goto F (pc := 9) 15 dL_heatOf_9 (by decide) ?_
    refine v_iconst F (pc := 15) dL_heatOf_15 ?_
    exact v_iret F (pc := 16) dL_heatOf_16 rfl rfl (Nat.le_of_ble_eq_true rfl) (Nat.le_of_ble_eq_true rfl) ⟨h2, _, by rw [e0], rfl, ho1, hX1, fun _ => rfl⟩
  · obtain ⟨h2, ⟨hX1, hcase⟩, rfl, hd1⟩ := hp
    have ho1 : h2 o = none := hd1 o (by rw [fO_s]; exact fun z => by cases z)
    obtain ⟨e, rfl⟩ := hcase
    refine v_catch F (pc := 4) (hh := hL_heatOf) htab [] ⟨0, 9, 12, 13⟩ [] rfl (fun z hz => absurd hz List.not_mem_nil) (by decide) (by decide) tk_L_13 tc_IllegalArgumentException (fun q => ?_)
    refine v_astore_n F (pc := 12) (lo' := [some (.ref x), some (.int (iI row)), some (.ref o), some (.ref q)]) dL_heatOf_12 (Nat.le_of_ble_eq_true rfl) rfl ?_
    refine v_iconst F (pc := 13) dL_heatOf_13 ?_
    exact v_iret F (pc := 14) dL_heatOf_14 rfl rfl (Nat.le_of_ble_eq_true rfl) (Nat.le_of_ble_eq_true rfl) ⟨h2, v0, by rw [e], rfl, ho1, hX1, fun z => absurd (e.symm.trans z) (by decide)⟩
set_option maxRecDepth 100000 in
theorem KL_gap (l : Launch) (g : gT) {x o : Nat} {h : fH} {σ : sT} (hX : SX g x h σ) (ho : h o = none) (v0 : Int64) (k : Int) (hk_ : -2147483648 ≤ k ∧ k ≤ 2147483647) : CMW l g yL_gap cL_gap 4 (some .int) hL_gap { frames := 12, cells := 1, slots := 6, locals := 182 } [.ref x, .int (iI k), .ref o] (f_or h (fO g o v0)) (fun v1 h1 => ∃ (h2 : fH) (v2 : Int64), v1 = some (.int (iI (c01 (okR σ k)))) ∧ h1 = f_or h2 (fO g o v2) ∧ h2 o = none ∧ SX g x h2 (su σ 0 0 (c01 (okR σ k))) ∧ (c01 (okR σ k) = 0 → v2 = (iI (if c01 (okR σ k) = 0 then (m_gap σ k (σ 2 k)).1 else 0)).toInt64)) := by
  refine CMW.of (lo := [some (.ref x), some (.int (iI k)), some (.ref o), none]) (by decide) (Nat.le_of_ble_eq_true rfl) (by simp [Value.category]) rfl ?_
  intro pX eX sX_ mX bX tX cX AX F htab hN
  have F : Fx pX l sX_ mX ([.ref x, .int (iI k), .ref o] : List Value).toArray tX cX cL_gap 4 (some .int) RL g AX := F
  obtain ⟨fs, hfs⟩ := SX.obj hX
  have hd : ∀ a, fO g o v0 a ≠ none → h a = none := fun a ha => by rw [fO_n ha]; exact ho
  refine v_aload_n F (pc := 0) dL_gap_0 rfl ?_
  refine v_iconst F (pc := 1) dL_gap_1 ?_
  refine v_aload_n F (pc := 2) dL_gap_2 rfl ?_
  refine v_iload_n F (pc := 3) dL_gap_3 rfl ?_
  refine v_callV F (pc := 4) (As := [.int (iI k)]) (rest := [.int (iI 0), .ref o]) ci_L_71 ct_X4_gap cs_X4_gap (CM.frame (k := fO g o v0) (J_gap l g hX k hk_) hd) dL_gap_4 (k0 := 7) rfl rfl (f_or_l hfs) rfl rfl (Nat.le_of_ble_eq_true rfl) (Nat.le_of_ble_eq_true rfl) (Nat.le_of_ble_eq_true rfl) (Nat.le_of_ble_eq_true rfl) (Nat.le_of_ble_eq_true rfl) (fun v h1 hp => ?_) (fun E h1 hp => ?_)
  · obtain ⟨h2, ⟨e0, rfl, hX1⟩, rfl, hd1⟩ := hp
    have ho1 : h2 o = none := hd1 o (by rw [fO_s]; exact fun z => by cases z)
    refine v_i2l9 F (pc := 7) dL_gap_7 ?_
    refine v_last F (pc := 8) ho1 dL_gap_8 ?_
    refine v_goto F (pc := 9) 15 dL_gap_9 (by decide) ?_
    refine v_iconst F (pc := 15) dL_gap_15 ?_
    exact v_iret F (pc := 16) dL_gap_16 rfl rfl (Nat.le_of_ble_eq_true rfl) (Nat.le_of_ble_eq_true rfl) ⟨h2, _, by rw [e0], rfl, ho1, hX1, fun _ => rfl⟩
  · obtain ⟨h2, ⟨hX1, hcase⟩, rfl, hd1⟩ := hp
    have ho1 : h2 o = none := hd1 o (by rw [fO_s]; exact fun z => by cases z)
    obtain ⟨e, rfl⟩ := hcase
    refine v_catch F (pc := 4) (hh := hL_gap) htab [] ⟨0, 9, 12, 39⟩ [] rfl (fun z hz => absurd hz List.not_mem_nil) (by decide) (by decide) tk_L_39 tc_IndexOutOfBoundsException (fun q => ?_)
    refine v_astore_n F (pc := 12) (lo' := [some (.ref x), some (.int (iI k)), some (.ref o), some (.ref q)]) dL_gap_12 (Nat.le_of_ble_eq_true rfl) rfl ?_
    refine v_iconst F (pc := 13) dL_gap_13 ?_
    exact v_iret F (pc := 14) dL_gap_14 rfl rfl (Nat.le_of_ble_eq_true rfl) (Nat.le_of_ble_eq_true rfl) ⟨h2, v0, by rw [e], rfl, ho1, hX1, fun z => absurd (e.symm.trans z) (by decide)⟩
set_option maxRecDepth 100000 in
theorem KL_racksFor (l : Launch) (g : gT) {x o : Nat} {h : fH} {σ : sT} (hX : SX g x h σ) (ho : h o = none) (v0 : Int64) (n p w c : Int) (hn_ : -2147483648 ≤ n ∧ n ≤ 2147483647) (hp_ : -2147483648 ≤ p ∧ p ≤ 2147483647) (hw_ : -2147483648 ≤ w ∧ w ≤ 2147483647) (hc_ : -2147483648 ≤ c ∧ c ≤ 2147483647) : CMW l g yL_racksFor cL_racksFor 7 (some .int) hL_racksFor { frames := 13, cells := 5, slots := 31, locals := 213 } [.ref x, .int (iI n), .int (iI p), .int (iI w), .int (iI c), .ref o] (f_or h (fO g o v0)) (fun v1 h1 => ∃ (h2 : fH) (v2 : Int64), v1 = some (.int (iI (c01 (m_kind n p w c)))) ∧ h1 = f_or h2 (fO g o v2) ∧ h2 o = none ∧ SX g x h2 (su σ 0 0 (c01 (m_kind n p w c))) ∧ (c01 (m_kind n p w c) = 0 → v2 = (iI (rF_a σ n p w c)).toInt64)) := by
  refine CMW.of (lo := [some (.ref x), some (.int (iI n)), some (.int (iI p)), some (.int (iI w)), some (.int (iI c)), some (.ref o), none]) (by decide) (Nat.le_of_ble_eq_true rfl) (by simp [Value.category]) rfl ?_
  intro pX eX sX_ mX bX tX cX AX F htab hN
  have F : Fx pX l sX_ mX ([.ref x, .int (iI n), .int (iI p), .int (iI w), .int (iI c), .ref o] : List Value).toArray tX cX cL_racksFor 7 (some .int) RL g AX := F
  obtain ⟨fs, hfs⟩ := SX.obj hX
  have hd : ∀ a, fO g o v0 a ≠ none → h a = none := fun a ha => by rw [fO_n ha]; exact ho
  refine v_aload F (pc := 0) dL_racksFor_0 rfl ?_
  refine v_iconst F (pc := 2) dL_racksFor_2 ?_
  refine v_aload_n F (pc := 3) dL_racksFor_3 rfl ?_
  refine v_iload_n F (pc := 4) dL_racksFor_4 rfl ?_
  refine v_iload_n F (pc := 5) dL_racksFor_5 rfl ?_
  refine v_iload_n F (pc := 6) dL_racksFor_6 rfl ?_
  refine v_iload F (pc := 7) dL_racksFor_7 rfl ?_
  refine v_callV F (pc := 9) (As := [.int (iI n), .int (iI p), .int (iI w), .int (iI c)]) (rest := [.int (iI 0), .ref o]) ci_L_74 ct_X4_racksFor cs_X4_racksFor (CM.frame (k := fO g o v0) (J_racksFor l g hX n p w c hn_ hp_ hw_ hc_) hd) dL_racksFor_9 (k0 := 7) rfl rfl (f_or_l hfs) rfl rfl (Nat.le_of_ble_eq_true rfl) (Nat.le_of_ble_eq_true rfl) (Nat.le_of_ble_eq_true rfl) (Nat.le_of_ble_eq_true rfl) (Nat.le_of_ble_eq_true rfl) (fun v h1 hp => ?_) (fun E h1 hp => ?_)
  · obtain ⟨h2, ⟨e0, rfl, hX1⟩, rfl, hd1⟩ := hp
    have ho1 : h2 o = none := hd1 o (by rw [fO_s]; exact fun z => by cases z)
    refine v_i2l9 F (pc := 12) dL_racksFor_12 ?_
    refine v_last F (pc := 13) ho1 dL_racksFor_13 ?_
    refine v_goto F (pc := 14) 21 dL_racksFor_14 (by decide) ?_
    refine v_iconst F (pc := 21) dL_racksFor_21 ?_
    exact v_iret F (pc := 22) dL_racksFor_22 rfl rfl (Nat.le_of_ble_eq_true rfl) (Nat.le_of_ble_eq_true rfl) ⟨h2, _, by rw [e0], rfl, ho1, hX1, fun _ => rfl⟩
  · obtain ⟨h2, ⟨hX1, hcase⟩, rfl, hd1⟩ := hp
    have ho1 : h2 o = none := hd1 o (by rw [fO_s]; exact fun z => by cases z)
    obtain ⟨e, rfl⟩ := hcase
    refine v_catch F (pc := 9) (hh := hL_racksFor) htab [] ⟨0, 14, 17, 13⟩ [] rfl (fun z hz => absurd hz List.not_mem_nil) (by decide) (by decide) tk_L_13 tc_IllegalArgumentException (fun q => ?_)
    refine v_astore F (pc := 17) (lo' := [some (.ref x), some (.int (iI n)), some (.int (iI p)), some (.int (iI w)), some (.int (iI c)), some (.ref o), some (.ref q)]) dL_racksFor_17 (Nat.le_of_ble_eq_true rfl) rfl ?_
    refine v_iconst F (pc := 19) dL_racksFor_19 ?_
    exact v_iret F (pc := 20) dL_racksFor_20 rfl rfl (Nat.le_of_ble_eq_true rfl) (Nat.le_of_ble_eq_true rfl) ⟨h2, v0, by rw [e], rfl, ho1, hX1, fun z => absurd (e.symm.trans z) (by decide)⟩
set_option maxRecDepth 100000 in
theorem KL_roomFor (l : Launch) (g : gT) {x o : Nat} {h : fH} {σ : sT} (hX : SX g x h σ) (ho : h o = none) (v0 : Int64) (n p w c : Int) (hn_ : -2147483648 ≤ n ∧ n ≤ 2147483647) (hp_ : -2147483648 ≤ p ∧ p ≤ 2147483647) (hw_ : -2147483648 ≤ w ∧ w ≤ 2147483647) (hc_ : -2147483648 ≤ c ∧ c ≤ 2147483647) : CMW l g yL_roomFor cL_roomFor 7 (some .int) hL_roomFor { frames := 13, cells := 5, slots := 31, locals := 226 } [.ref x, .int (iI n), .int (iI p), .int (iI w), .int (iI c), .ref o] (f_or h (fO g o v0)) (fun v1 h1 => ∃ (h2 : fH) (v2 : Int64), v1 = some (.int (iI (c01 (m_kind n p w c)))) ∧ h1 = f_or h2 (fO g o v2) ∧ h2 o = none ∧ SX g x h2 (su σ 0 0 (c01 (m_kind n p w c))) ∧ (c01 (m_kind n p w c) = 0 → v2 = (iI (rc_a σ n p w c)).toInt64)) := by
  refine CMW.of (lo := [some (.ref x), some (.int (iI n)), some (.int (iI p)), some (.int (iI w)), some (.int (iI c)), some (.ref o), none]) (by decide) (Nat.le_of_ble_eq_true rfl) (by simp [Value.category]) rfl ?_
  intro pX eX sX_ mX bX tX cX AX F htab hN
  have F : Fx pX l sX_ mX ([.ref x, .int (iI n), .int (iI p), .int (iI w), .int (iI c), .ref o] : List Value).toArray tX cX cL_roomFor 7 (some .int) RL g AX := F
  obtain ⟨fs, hfs⟩ := SX.obj hX
  have hd : ∀ a, fO g o v0 a ≠ none → h a = none := fun a ha => by rw [fO_n ha]; exact ho
  refine v_aload F (pc := 0) dL_roomFor_0 rfl ?_
  refine v_iconst F (pc := 2) dL_roomFor_2 ?_
  refine v_aload_n F (pc := 3) dL_roomFor_3 rfl ?_
  refine v_iload_n F (pc := 4) dL_roomFor_4 rfl ?_
  refine v_iload_n F (pc := 5) dL_roomFor_5 rfl ?_
  refine v_iload_n F (pc := 6) dL_roomFor_6 rfl ?_
  refine v_iload F (pc := 7) dL_roomFor_7 rfl ?_
  refine v_callV F (pc := 9) (As := [.int (iI n), .int (iI p), .int (iI w), .int (iI c)]) (rest := [.int (iI 0), .ref o]) ci_L_77 ct_X4_roomFor cs_X4_roomFor (CM.frame (k := fO g o v0) (J_roomFor l g hX n p w c hn_ hp_ hw_ hc_) hd) dL_roomFor_9 (k0 := 7) rfl rfl (f_or_l hfs) rfl rfl (Nat.le_of_ble_eq_true rfl) (Nat.le_of_ble_eq_true rfl) (Nat.le_of_ble_eq_true rfl) (Nat.le_of_ble_eq_true rfl) (Nat.le_of_ble_eq_true rfl) (fun v h1 hp => ?_) (fun E h1 hp => ?_)
  · obtain ⟨h2, ⟨e0, rfl, hX1⟩, rfl, hd1⟩ := hp
    have ho1 : h2 o = none := hd1 o (by rw [fO_s]; exact fun z => by cases z)
    refine v_i2l9 F (pc := 12) dL_roomFor_12 ?_
    refine v_last F (pc := 13) ho1 dL_roomFor_13 ?_
    refine v_goto F (pc := 14) 21 dL_roomFor_14 (by decide) ?_
    refine v_iconst F (pc := 21) dL_roomFor_21 ?_
    exact v_iret F (pc := 22) dL_roomFor_22 rfl rfl (Nat.le_of_ble_eq_true rfl) (Nat.le_of_ble_eq_true rfl) ⟨h2, _, by rw [e0], rfl, ho1, hX1, fun _ => rfl⟩
  · obtain ⟨h2, ⟨hX1, hcase⟩, rfl, hd1⟩ := hp
    have ho1 : h2 o = none := hd1 o (by rw [fO_s]; exact fun z => by cases z)
    obtain ⟨e, rfl⟩ := hcase
    refine v_catch F (pc := 9) (hh := hL_roomFor) htab [] ⟨0, 14, 17, 13⟩ [] rfl (fun z hz => absurd hz List.not_mem_nil) (by decide) (by decide) tk_L_13 tc_IllegalArgumentException (fun q => ?_)
    refine v_astore F (pc := 17) (lo' := [some (.ref x), some (.int (iI n)), some (.int (iI p)), some (.int (iI w)), some (.int (iI c)), some (.ref o), some (.ref q)]) dL_roomFor_17 (Nat.le_of_ble_eq_true rfl) rfl ?_
    refine v_iconst F (pc := 19) dL_roomFor_19 ?_
    exact v_iret F (pc := 20) dL_roomFor_20 rfl rfl (Nat.le_of_ble_eq_true rfl) (Nat.le_of_ble_eq_true rfl) ⟨h2, v0, by rw [e], rfl, ho1, hX1, fun z => absurd (e.symm.trans z) (by decide)⟩
set_option maxRecDepth 100000 in
theorem KL_roomByCounting (l : Launch) (g : gT) {x o : Nat} {h : fH} {σ : sT} (hX : SX g x h σ) (ho : h o = none) (v0 : Int64) (n p w c : Int) (hn_ : -2147483648 ≤ n ∧ n ≤ 2147483647) (hp_ : -2147483648 ≤ p ∧ p ≤ 2147483647) (hw_ : -2147483648 ≤ w ∧ w ≤ 2147483647) (hc_ : -2147483648 ≤ c ∧ c ≤ 2147483647) : CMW l g yL_roomByCounting cL_roomByCounting 7 (some .int) hL_roomByCounting { frames := 13, cells := 5, slots := 31, locals := 214 } [.ref x, .int (iI n), .int (iI p), .int (iI w), .int (iI c), .ref o] (f_or h (fO g o v0)) (fun v1 h1 => ∃ (h2 : fH) (v2 : Int64), v1 = some (.int (iI (c01 (m_kind n p w c)))) ∧ h1 = f_or h2 (fO g o v2) ∧ h2 o = none ∧ SX g x h2 (su σ 0 0 (c01 (m_kind n p w c))) ∧ (c01 (m_kind n p w c) = 0 → v2 = (iI (rc_a σ n p w c)).toInt64)) := by
  refine CMW.of (lo := [some (.ref x), some (.int (iI n)), some (.int (iI p)), some (.int (iI w)), some (.int (iI c)), some (.ref o), none]) (by decide) (Nat.le_of_ble_eq_true rfl) (by simp [Value.category]) rfl ?_
  intro pX eX sX_ mX bX tX cX AX F htab hN
  have F : Fx pX l sX_ mX ([.ref x, .int (iI n), .int (iI p), .int (iI w), .int (iI c), .ref o] : List Value).toArray tX cX cL_roomByCounting 7 (some .int) RL g AX := F
  obtain ⟨fs, hfs⟩ := SX.obj hX
  have hd : ∀ a, fO g o v0 a ≠ none → h a = none := fun a ha => by rw [fO_n ha]; exact ho
  refine v_aload F (pc := 0) dL_roomByCounting_0 rfl ?_
  refine v_iconst F (pc := 2) dL_roomByCounting_2 ?_
  refine v_aload_n F (pc := 3) dL_roomByCounting_3 rfl ?_
  refine v_iload_n F (pc := 4) dL_roomByCounting_4 rfl ?_
  refine v_iload_n F (pc := 5) dL_roomByCounting_5 rfl ?_
  refine v_iload_n F (pc := 6) dL_roomByCounting_6 rfl ?_
  refine v_iload F (pc := 7) dL_roomByCounting_7 rfl ?_
  refine v_callV F (pc := 9) (As := [.int (iI n), .int (iI p), .int (iI w), .int (iI c)]) (rest := [.int (iI 0), .ref o]) ci_L_80 ct_X4_roomByCounting cs_X4_roomByCounting (CM.frame (k := fO g o v0) (J_roomByCounting l g hX n p w c hn_ hp_ hw_ hc_) hd) dL_roomByCounting_9 (k0 := 7) rfl rfl (f_or_l hfs) rfl rfl (Nat.le_of_ble_eq_true rfl) (Nat.le_of_ble_eq_true rfl) (Nat.le_of_ble_eq_true rfl) (Nat.le_of_ble_eq_true rfl) (Nat.le_of_ble_eq_true rfl) (fun v h1 hp => ?_) (fun E h1 hp => ?_)
  · obtain ⟨h2, ⟨e0, rfl, hX1⟩, rfl, hd1⟩ := hp
    have ho1 : h2 o = none := hd1 o (by rw [fO_s]; exact fun z => by cases z)
    refine v_i2l9 F (pc := 12) dL_roomByCounting_12 ?_
    refine v_last F (pc := 13) ho1 dL_roomByCounting_13 ?_
    refine v_goto F (pc := 14) 21 dL_roomByCounting_14 (by decide) ?_
    refine v_iconst F (pc := 21) dL_roomByCounting_21 ?_
    exact v_iret F (pc := 22) dL_roomByCounting_22 rfl rfl (Nat.le_of_ble_eq_true rfl) (Nat.le_of_ble_eq_true rfl) ⟨h2, _, by rw [e0], rfl, ho1, hX1, fun _ => rfl⟩
  · obtain ⟨h2, ⟨hX1, hcase⟩, rfl, hd1⟩ := hp
    have ho1 : h2 o = none := hd1 o (by rw [fO_s]; exact fun z => by cases z)
    obtain ⟨e, rfl⟩ := hcase
    refine v_catch F (pc := 9) (hh := hL_roomByCounting) htab [] ⟨0, 14, 17, 13⟩ [] rfl (fun z hz => absurd hz List.not_mem_nil) (by decide) (by decide) tk_L_13 tc_IllegalArgumentException (fun q => ?_)
    refine v_astore F (pc := 17) (lo' := [some (.ref x), some (.int (iI n)), some (.int (iI p)), some (.int (iI w)), some (.int (iI c)), some (.ref o), some (.ref q)]) dL_roomByCounting_17 (Nat.le_of_ble_eq_true rfl) rfl ?_
    refine v_iconst F (pc := 19) dL_roomByCounting_19 ?_
    exact v_iret F (pc := 20) dL_roomByCounting_20 rfl rfl (Nat.le_of_ble_eq_true rfl) (Nat.le_of_ble_eq_true rfl) ⟨h2, v0, by rw [e], rfl, ho1, hX1, fun z => absurd (e.symm.trans z) (by decide)⟩
