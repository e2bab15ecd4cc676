/-! ===== the law: its deeds ===== -/
-- the law, from 301
set_option maxRecDepth 100000 in
set_option maxHeartbeats 8000000 in
theorem D_add {pX : Program} {l : Launch} {eX : Env} {sS : State} {mX : MethodId} {args : Array Value} {below : List Frame} {meth : Method} {cX : Code} {Q : State → Prop} {g : gT} {AX : Nat → Prop} (F : Fx pX l sS mX args meth cX cL_law 24 ret RL g AX) {x a2 a3 a4 a5 b : Nat} {h0 : fH} {σ : sT} {k0 : fH} (X0 : SL g x h0 σ k0) (hAR : AR g k0 a2 a3 a4 a5 σ) {tn t y sz pw wt cd : Int} (hkd : cKD sz pw wt cd) (hgv : σ 18 0 < 1000) (hy : -2147483648 ≤ y ∧ y ≤ 2147483647) {cells slots : Nat} (hc : cells + 130 ≤ 674477) (hs : slots + 18100 ≤ 7078194) (h8 : σ 5 0 < 8) (kk : ∀ (h2 : fH) (σ2 : sT) (k2 : fH), SL g x h2 σ2 k2 → AR g k2 a2 a3 a4 a5 σ2 → 0 ≤ σ2 18 0 → σ2 18 0 ≤ σ 18 0 + 1 → V pX l eX room_1 sS mX args below meth cX Q 24 g AX h2 (cells + 130) (slots + 18100) 1144 [some (.ref b), some (.ref x), some (.ref a2), some (.ref a3), some (.ref a4), some (.ref a5), some (.int (iI (σ2 18 0))), some (.int (iI (1))), some (.int (iI (tn))), some (.int (iI (t))), none, none, none, some (.int (iI (sz))), some (.int (iI (pw))), some (.int (iI (wt))), some (.int (iI (cd))), none, none, none, none, none, none, none] []) : V pX l eX room_1 sS mX args below meth cX Q 24 g AX (h0) (cells) (slots) 301 [some (.ref b), some (.ref x), some (.ref a2), some (.ref a3), some (.ref a4), some (.ref a5), some (.int (iI (σ 18 0))), some (.int (iI (1))), some (.int (iI (tn))), some (.int (iI (t))), none, some (.int (iI (y))), none, some (.int (iI (sz))), some (.int (iI (pw))), some (.int (iI (wt))), some (.int (iI (cd))), none, none, some (.int (iI (σ 17 0))), none, none, none, none] [] := by
  have hIV := X0.iv
  have hm := mb_nm hIV.1
  have hn := mb_nr hIV.1
  have h18 : (0 : Int) ≤ σ 18 0 := (hIV.1 18 0 (by decide) (by decide)).1
  have hAR0 := hAR
  obtain ⟨⟨d23, d24, d25, d34, d35, d45⟩, SF, LF, WF, MF, q2, q3, q4, q5, hS, hM⟩ := hAR
  obtain ⟨fs0, o0⟩ := X0.obj
  have m1 := maI_rng y (m := 255) (by decide)
  have m2 := maI_rng (shI y 3) (m := 15) (by decide)
  have m3 := maI_rng (shI y 7) (m := 3) (by decide)
  have m4 := maI_rng (shI y 9) (m := 7) (by decide)
  obtain ⟨vs, evs⟩ : ∃ z, 1 + maI y 255 % 20 = z := ⟨_, rfl⟩
  obtain ⟨vl, evl⟩ : ∃ z, maI (shI y 3) 15 * 300 = z := ⟨_, rfl⟩
  obtain ⟨vr, evr⟩ : ∃ z, maI (shI y 7) 3 = z := ⟨_, rfl⟩
  obtain ⟨vw, evw⟩ : ∃ z, maI (shI y 9) 7 * 500 = z := ⟨_, rfl⟩
  have hk4 : (0 ≤ vr ∧ vr ≤ 3) ∧ (1 ≤ vs ∧ vs ≤ 20) ∧ (0 ≤ vw ∧ vw ≤ 10000) ∧ (0 ≤ vl ∧ vl ≤ 10000) := by omega
  refine v_aload_n F (pc := 301) dL_law_301 rfl ?_
  refine v_callV F (pc := 302) (As := []) (rest := []) ci_L_45 ct_X4_racks cs_X4_racks (N_racks l g X0) dL_law_302 (k0 := 7) rfl rfl o0 rfl rfl (Nat.le_of_ble_eq_true rfl) (Nat.le_of_ble_eq_true rfl) (Nat.le_of_ble_eq_true rfl) (show cells + 0 ≤ 674477 by omega) (show slots + 0 ≤ 7078194 by omega) (fun v_ h1 hp_ => ?_) (fun _ _ z => z.elim)
  obtain ⟨rfl, X1⟩ := hp_
  obtain ⟨fs1, o1⟩ := X1.obj
  refine v_istore F (pc := 305) (lo' := [some (.ref b), some (.ref x), some (.ref a2), some (.ref a3), some (.ref a4), some (.ref a5), some (.int (iI (σ 18 0))), some (.int (iI (1))), some (.int (iI (tn))), some (.int (iI (t))), none, some (.int (iI (y))), none, some (.int (iI (sz))), some (.int (iI (pw))), some (.int (iI (wt))), some (.int (iI (cd))), none, none, some (.int (iI (σ 17 0))), some (.int (iI (σ 5 0))), none, none, none]) dL_law_305 (Nat.le_of_ble_eq_true rfl) rfl ?_
  refine v_aload_n F (pc := 307) dL_law_307 rfl ?_
  refine v_iload F (pc := 308) dL_law_308 rfl ?_
  refine v_iconst F (pc := 310) dL_law_310 ?_
  refine v_iload F (pc := 311) dL_law_311 rfl ?_
  refine v_sipush F (pc := 313) dL_law_313 (by decide) ?_
  refine v_iandM F (pc := 316) (a := y) (b := 255) dL_law_316 ?_
  refine v_bipush F (pc := 317) dL_law_317 (by decide) ?_
  refine v_irem F (pc := 319) (a := maI y 255) (b := 20) dL_law_319 (by omega) (by omega) ?_
  refine v_iadd F (pc := 320) (a := 1) (b := (maI y 255) % 20) dL_law_320 ?_
  rw [evs]
  refine v_iast F (pc := 321) (n := 8) (f := SF) (z := σ 5 0) (x := vs) dL_law_321 (X1.cel q2) (by omega) (by decide) (h' := (f_up h1 a2 (iar (g.2.1 0) 8 (iup SF (σ 5 0) (vs))))) rfl ?_
  have X2 := X1.up (e' := (iar (g.2.1 0) 8 (iup SF (σ 5 0) (vs)))) q2
  obtain ⟨k2, ek2⟩ : ∃ kk_, kk_ = f_up k0 a2 (iar (g.2.1 0) 8 (iup SF (σ 5 0) (vs))) := ⟨_, rfl⟩
  rw [← ek2] at X2
  generalize f_up h1 a2 (iar (g.2.1 0) 8 (iup SF (σ 5 0) (vs))) = h2 at X2 ⊢
  obtain ⟨fs2, o2⟩ := X2.obj
  have z2_a2 : k2 a2 = some (iar (g.2.1 0) 8 (iup SF (σ 5 0) (vs))) := by rw [ek2, f_up_s]
  have z2_a3 : k2 a3 = some (iar (g.2.1 0) 8 LF) := by rw [ek2, f_up_n (Ne.symm d23)]; exact q3
  have z2_a4 : k2 a4 = some (iar (g.2.1 0) 8 WF) := by rw [ek2, f_up_n (Ne.symm d24)]; exact q4
  have z2_a5 : k2 a5 = some (iar (g.2.1 0) 4 MF) := by rw [ek2, f_up_n (Ne.symm d25)]; exact q5
  refine v_aload_n F (pc := 322) dL_law_322 rfl ?_
  refine v_iload F (pc := 323) dL_law_323 rfl ?_
  refine v_iload F (pc := 325) dL_law_325 rfl ?_
  refine v_iconst F (pc := 327) dL_law_327 ?_
  refine v_ishrM F (pc := 328) (a := y) (b := 3) dL_law_328 ?_
  refine v_bipush F (pc := 329) dL_law_329 (by decide) ?_
  refine v_iandM F (pc := 331) (a := shI y 3) (b := 15) dL_law_331 ?_
  refine v_sipush F (pc := 332) dL_law_332 (by decide) ?_
  refine v_imul F (pc := 335) (a := maI (shI y 3) 15) (b := 300) dL_law_335 ?_
  rw [evl]
  refine v_iast F (pc := 336) (n := 8) (f := LF) (z := σ 5 0) (x := vl) dL_law_336 (X2.cel z2_a3) (by omega) (by decide) (h' := (f_up h2 a3 (iar (g.2.1 0) 8 (iup LF (σ 5 0) (vl))))) rfl ?_
  have X3 := X2.up (e' := (iar (g.2.1 0) 8 (iup LF (σ 5 0) (vl)))) z2_a3
  obtain ⟨k3, ek3⟩ : ∃ kk_, kk_ = f_up k2 a3 (iar (g.2.1 0) 8 (iup LF (σ 5 0) (vl))) := ⟨_, rfl⟩
  rw [← ek3] at X3
  generalize f_up h2 a3 (iar (g.2.1 0) 8 (iup LF (σ 5 0) (vl))) = h3 at X3 ⊢
  obtain ⟨fs3, o3⟩ := X3.obj
  have z3_a2 : k3 a2 = some (iar (g.2.1 0) 8 (iup SF (σ 5 0) (vs))) := by rw [ek3, f_up_n d23]; exact z2_a2
  have z3_a3 : k3 a3 = some (iar (g.2.1 0) 8 (iup LF (σ 5 0) (vl))) := by rw [ek3, f_up_s]
  have z3_a4 : k3 a4 = some (iar (g.2.1 0) 8 WF) := by rw [ek3, f_up_n (Ne.symm d34)]; exact z2_a4
  have z3_a5 : k3 a5 = some (iar (g.2.1 0) 4 MF) := by rw [ek3, f_up_n (Ne.symm d35)]; exact z2_a5
  refine v_aload F (pc := 337) dL_law_337 rfl ?_
  refine v_iload F (pc := 339) dL_law_339 rfl ?_
  refine v_iload F (pc := 341) dL_law_341 rfl ?_
  refine v_bipush F (pc := 343) dL_law_343 (by decide) ?_
  refine v_ishrM F (pc := 345) (a := y) (b := 7) dL_law_345 ?_
  refine v_iconst F (pc := 346) dL_law_346 ?_
  refine v_iandM F (pc := 347) (a := shI y 7) (b := 3) dL_law_347 ?_
  rw [evr]
  refine v_iast F (pc := 348) (n := 8) (f := WF) (z := σ 5 0) (x := vr) dL_law_348 (X3.cel z3_a4) (by omega) (by decide) (h' := (f_up h3 a4 (iar (g.2.1 0) 8 (iup WF (σ 5 0) (vr))))) rfl ?_
  have X4 := X3.up (e' := (iar (g.2.1 0) 8 (iup WF (σ 5 0) (vr)))) z3_a4
  obtain ⟨k4, ek4⟩ : ∃ kk_, kk_ = f_up k3 a4 (iar (g.2.1 0) 8 (iup WF (σ 5 0) (vr))) := ⟨_, rfl⟩
  rw [← ek4] at X4
  generalize f_up h3 a4 (iar (g.2.1 0) 8 (iup WF (σ 5 0) (vr))) = h4 at X4 ⊢
  obtain ⟨fs4, o4⟩ := X4.obj
  have z4_a2 : k4 a2 = some (iar (g.2.1 0) 8 (iup SF (σ 5 0) (vs))) := by rw [ek4, f_up_n d24]; exact z3_a2
  have z4_a3 : k4 a3 = some (iar (g.2.1 0) 8 (iup LF (σ 5 0) (vl))) := by rw [ek4, f_up_n d34]; exact z3_a3
  have z4_a4 : k4 a4 = some (iar (g.2.1 0) 8 (iup WF (σ 5 0) (vr))) := by rw [ek4, f_up_s]
  have z4_a5 : k4 a5 = some (iar (g.2.1 0) 4 MF) := by rw [ek4, f_up_n (Ne.symm d45)]; exact z3_a5
  refine v_aload_n F (pc := 349) dL_law_349 rfl ?_
  refine v_aload F (pc := 350) dL_law_350 rfl ?_
  refine v_iload F (pc := 352) dL_law_352 rfl ?_
  refine v_iald F (pc := 354) (n := 8) (f := iup WF (σ 5 0) (vr)) (z := σ 5 0) dL_law_354 (X4.cel z4_a4) (by omega) (by decide) ?_
  rw [iup_s]
  refine v_aload_n F (pc := 355) dL_law_355 rfl ?_
  refine v_iload F (pc := 356) dL_law_356 rfl ?_
  refine v_iald F (pc := 358) (n := 8) (f := iup SF (σ 5 0) (vs)) (z := σ 5 0) dL_law_358 (X4.cel z4_a2) (by omega) (by decide) ?_
  rw [iup_s]
  refine v_iload F (pc := 359) dL_law_359 rfl ?_
  refine v_bipush F (pc := 361) dL_law_361 (by decide) ?_
  refine v_ishrM F (pc := 363) (a := y) (b := 9) dL_law_363 ?_
  refine v_bipush F (pc := 364) dL_law_364 (by decide) ?_
  refine v_iandM F (pc := 366) (a := shI y 9) (b := 7) dL_law_366 ?_
  refine v_sipush F (pc := 367) dL_law_367 (by decide) ?_
  refine v_imul F (pc := 370) (a := maI (shI y 9) 7) (b := 500) dL_law_370 ?_
  rw [evw]
  refine v_aload_n F (pc := 371) dL_law_371 rfl ?_
  refine v_iload F (pc := 372) dL_law_372 rfl ?_
  refine v_iald F (pc := 374) (n := 8) (f := iup LF (σ 5 0) (vl)) (z := σ 5 0) dL_law_374 (X4.cel z4_a3) (by omega) (by decide) ?_
  rw [iup_s]
  refine v_callV F (pc := 375) (As := [.int (iI (vr)), .int (iI (vs)), .int (iI (vw)), .int (iI (vl))]) (rest := []) ci_L_99 ct_X4_addRack cs_X4_addRack (N_addRack l g X4 vr vs vw vl hk4 h8) dL_law_375 (k0 := 7) rfl rfl o4 rfl rfl (Nat.le_of_ble_eq_true rfl) (Nat.le_of_ble_eq_true rfl) (Nat.le_of_ble_eq_true rfl) (show cells + 6 ≤ 674477 by omega) (show slots + 178 ≤ 7078194 by omega) (fun v_ h5 hp_ => ?_) (fun _ _ z => z.elim)
  obtain ⟨rfl, X5⟩ := hp_
  obtain ⟨fs5, o5⟩ := X5.obj
  obtain ⟨f1, f2, f3, f4, f5⟩ := add_facts hIV hk4 h8
  obtain ⟨σ2, e2⟩ : ∃ z, aR_s σ vr vs vw vl = z := ⟨_, rfl⟩
  rw [e2] at X5 f1 f2 f3 f4 f5
  refine v_iload F (pc := 378) dL_law_378 rfl ?_
  refine v_icmp_ne F (pc := 380) (a := σ 5 0) (b := σ 5 0) 400 dL_law_380 (by decide) (by omega) (by omega) (fun c_1 => ?_) (fun c_1 => ?_)
  · exfalso; omega
  · refine v_aload_n F (pc := 383) dL_law_383 rfl ?_
    refine v_iload F (pc := 384) dL_law_384 rfl ?_
    refine v_callV F (pc := 386) (As := [.int (iI (σ 5 0))]) (rest := []) ci_L_48 ct_X4_gap cs_X4_gap (N_gap l g X5 (σ 5 0) (by omega)) dL_law_386 (k0 := 7) rfl rfl o5 rfl rfl (Nat.le_of_ble_eq_true rfl) (Nat.le_of_ble_eq_true rfl) (Nat.le_of_ble_eq_true rfl) (show cells + 6 + 1 ≤ 674477 by omega) (show slots + 178 + 6 ≤ 7078194 by omega) (fun v_ h6 hp_ => ?_) (fun _ _ z => z.elim)
    obtain ⟨rfl, X6⟩ := hp_
    obtain ⟨fs6, o6⟩ := X6.obj
    have eg : (m_gap σ2 (σ 5 0) (σ2 2 (σ 5 0))).1 = vs := by rw [f2.2.1]; exact f5
    refine v_aload_n F (pc := 389) dL_law_389 rfl ?_
    refine v_iload F (pc := 390) dL_law_390 rfl ?_
    refine v_iald F (pc := 392) (n := 8) (f := iup SF (σ 5 0) (vs)) (z := σ 5 0) dL_law_392 (X6.cel z4_a2) (by omega) (by decide) ?_
    rw [iup_s]
    refine v_icmp_ne F (pc := 393) (a := (m_gap σ2 (σ 5 0) (σ2 2 (σ 5 0))).1) (b := vs) 400 dL_law_393 (by decide) (by omega) (by omega) (fun c_2 => ?_) (fun c_2 => ?_)
    · exfalso; omega
    · refine v_iconst F (pc := 396) dL_law_396 ?_
      refine v_goto F (pc := 397) 401 dL_law_397 (by decide) ?_
      refine v_istore F (pc := 401) (lo' := [some (.ref b), some (.ref x), some (.ref a2), some (.ref a3), some (.ref a4), some (.ref a5), some (.int (iI (σ 18 0))), some (.int (iI (1))), some (.int (iI (tn))), some (.int (iI (t))), none, some (.int (iI (y))), none, some (.int (iI (sz))), some (.int (iI (pw))), some (.int (iI (wt))), some (.int (iI (cd))), none, none, some (.int (iI (σ 17 0))), some (.int (iI (σ 5 0))), none, none, none]) dL_law_401 (Nat.le_of_ble_eq_true rfl) rfl ?_
      refine v_goto F (pc := 403) 1144 dL_law_403 (by decide) ?_
      have hAR2 : AR g k4 a2 a3 a4 a5 σ2 := by
        refine ⟨⟨d23, d24, d25, d34, d35, d45⟩, _, _, _, _, z4_a2, z4_a3, z4_a4, z4_a5, fun r z1 z2 => ?_, fun row z1 z2 => ?_⟩
        · by_cases z : r = σ 5 0
          · subst z; rw [iup_s, iup_s, iup_s]; exact ⟨f2.2.1.symm, f2.2.2.symm, f2.1.symm⟩
          · have z3 := f3 r z
            have z4 := hS r z1 (by omega)
            rw [iup_n z, iup_n z, iup_n z, z3.1, z3.2.1, z3.2.2]; exact z4
        · rw [f4 7 (by decide), f4 6 (by decide)]; exact hM row z1 z2
      have e18 : σ 18 0 = σ2 18 0 := by rw [f4 18 (by decide)]
      rw [e18]
      exact v_wid (show cells + 6 + 1 ≤ cells + 130 by omega) (show slots + 178 + 6 ≤ slots + 18100 by omega) (V.fg (kk h6 σ2 k4 X6 hAR2 (by omega) (by omega)) ⟨rfl, ⟨rfl, ⟨rfl, ⟨rfl, ⟨rfl, ⟨rfl, ⟨rfl, ⟨rfl, ⟨rfl, ⟨rfl, ⟨rfl, ⟨rfl, ⟨rfl, ⟨rfl, trivial⟩⟩⟩⟩⟩⟩⟩⟩⟩⟩⟩⟩⟩⟩)
