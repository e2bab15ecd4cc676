/-! ===== the law: its loop ===== -/
def R_law : String := "RackPlannerLaw"
def lw_P (b : Addr) (xs : List Int32) (args : Array Value) (s : State) : Prop := args = #[.ref b] ∧ s.IntsAt b xs ∧ xs.length ≤ 2560 ∧ (Jvm.Cond.and given_1 narrow_1).before args s = true
def lw_Q (_ : Array Value) (s : State) (o : Outcome) (t : State) : Prop := o = .returned (some (.int 1)) ∧ Framed s o t [] 601024 7293034
def lw_Z (below : List Frame) (a : Array Value) (s : State) : State → Prop := fun t => ∃ o, t.status = .running ∧ Ended t below o ∧ lw_Q a s o t
/-- the law's own end, with 1 on the stack, nothing written that was there before, its room as the claim has it -/
theorem lw_ret {p : Program} {l : Launch} {e : Env} {s : State} {m : MethodId} {below : List Frame} {meth : Method} {c : Code} {b : Nat} (hx : p.tables.exec = Jvm.exec) (hb : c.code = code) (hr : meth.sig.returnType = ret) (hlocks : meth.locks = false) {pc : Nat} {H : Heap} {ls : Array Slot} (hdg : decode code pc = .ok (.ireturn, 1)) : W p l e room_1 s m #[Value.ref b] below meth c H [] 601024 7293034 (lw_Z below #[Value.ref b] s) (F0 m pc ls [.int 1]) := by
  intro T hT X
  obtain ⟨fs, hret, hrun, hended, hW, hframe⟩ := X.leave (v := some (.int 1)) (hlocks := hlocks) (fun h => by rw [hr] at h; cases h)
  have hmeth' : T.vm.method? m = some meth := X.method'
  refine ⟨T.setFrames fs, ?_, .returned (some (.int 1)), hrun, hended, rfl, ⟨_, rfl⟩, hW, hframe⟩
  jvm_step X.here [X.here.top, hx, hb, hdg, hmeth', hr, ret, narrow_b1]
  (try refine ⟨rfl, ?_⟩); (try refine ⟨rfl, ?_⟩)
  first | (intro acts; rw [hret _ acts rfl rfl rfl]) | rw [hret _ _ rfl rfl rfl]
  exact Steps.refl _
/-- what holds at the law's entry: the machine, the code, the tables' words (any of lw_tbl by 'hts w (by decide +kernel)'), the script of L ints xs at the cell b, what the Statement gives of the start (any of its parts by flat_of_before) -/
def lw_At (p : Program) (s : State) (m : MethodId) (meth : Method) (c : Code) (b L : Nat) (xs : Nat → Int32) : Prop :=
  p.tables.exec = Jvm.exec ∧ c.code = code ∧ meth.sig.returnType = ret ∧ c.maxLocals = 7 ∧ s.vm.findClass R_law = some m.cls ∧ (∀ w ∈ lw_tbl, w.before #[Value.ref b] s = true) ∧ va_X b L xs s s.heap ∧ b < s.heap.size ∧ meth.locks = false ∧ (Jvm.Cond.and given_1 narrow_1).before #[Value.ref b] s = true
theorem v_lawret {p : Program} {l : Launch} {e : Env} {s : State} {m : MethodId} {below : List Frame} {meth : Method} {c : Code} {g : gT} {A : Nat → Prop} {b : Nat} (F : Fx p l s m #[Value.ref b] meth c cL_law 7 ret RL g A) (hAs : ∀ q, A q → s.heap.size ≤ q) {h : fH} {cells slots pc : Nat} {lo : List (Option Value)} (d : decode cL_law pc = .ok (.ireturn, 1)) (h1 : cells ≤ 601024) (h2 : slots ≤ 7293034) : V p l e room_1 s m #[Value.ref b] below meth c (lw_Z below #[Value.ref b] s) 7 g A h cells slots pc lo [.int (iI 1)] := by
  intro H locs ls hP hS hl
  have e1 : iI 1 = 1 := by decide
  rw [e1]
  exact va_forget (fun q hq => hAs _ (hS.2.2 q hq)) (W.widen h1 h2 (lw_ret F.1 F.2.1 F.2.2.2.1 F.2.2.2.2.2.1 d))
set_option maxRecDepth 100000 in
theorem law_loop {p : Program} {l : Launch} {e : Env} {s : State} {m : MethodId} {below : List Frame} {meth : Method} {c : Code} {g : gT} {A : Nat → Prop} {b L : Nat} (F : Fx p l s m #[Value.ref b] meth c cL_law 7 ret RL g A) (hAs : ∀ q, A q → s.heap.size ≤ q) (hN : NC s) {xs : Nat → Int32} (hXs : va_X b L xs s s.heap) (hbl : b < s.heap.size) (hbA : ¬ A b) (hL : L ≤ 2560) {x o : Nat} {P : Nat → Nat} (hP : mok P) (C0 S0 : Nat) (hC0 : C0 ≤ 100) (hS0 : S0 ≤ 2000) : ∀ (d n : Nat) (hC : fH) (v0 : Int64) (σ : sT), SX g x hC σ → hC o = none → (∀ a, mheap g P σ a ≠ none → f_or hC (fO g o v0) a = none) → σ 18 0 ≤ n → 5 * n ≤ L → L < 5 * n + d → V p l e room_1 s m #[Value.ref b] below meth c (lw_Z below #[Value.ref b] s) 7 g A (f_or (f_or hC (fO g o v0)) (mheap g P σ)) (C0 + 60 * n) (S0 + 9000 * n) 23 [some (.ref b), some (.ref x), some (.ref (P 0)), some (.ref o), some (.int (iI (5 * (n : Int)))), none, none] [] := by
  intro d
  induction d with
  | zero => intro n hC v0 σ hX ho hd h18 h1 h2; exact absurd h2 (by omega)
  | succ d ih =>
    intro n hC v0 σ hX ho hd h18 h1 h2
    refine v_iload F (pc := 23) dL_law_23 rfl ?_
    refine v_aload_n F (pc := 25) dL_law_25 rfl ?_
    refine v_slen F (pc := 26) hXs hbl hbA dL_law_26 ?_
    refine v_iconst F (pc := 27) dL_law_27 ?_
    refine v_isub F (pc := 28) (a := (L : Int)) (b := 5) dL_law_28 ?_
    refine v_icmp_gt F (pc := 29) (a := 5 * (n : Int)) (b := (L : Int) - 5) 1627 dL_law_29 (by decide) (by omega) (by omega) (fun c_1 => ?_) (fun c_1 => ?_)
    · refine v_iconst F (pc := 1627) dL_law_1627 ?_
      exact v_lawret F hAs dL_law_1628 (by omega) (by omega)
    · have hi : (0 : Int) ≤ 5 * (n : Int) ∧ 5 * (n : Int) + 5 ≤ L := by omega
      have hgv : σ 18 0 < 1000000 := by omega
      have hc : C0 + 60 * n + 60 ≤ 601024 := by omega
      have hs : S0 + 9000 * n + 9000 ≤ 7293034 := by omega
      have back : ∀ (ce sl : Nat) (h2 : fH) (v2 : Int64) (σ2 : sT), ce ≤ 60 → sl ≤ 9000 → σ2 18 0 ≤ σ 18 0 + 1 → SX g x h2 σ2 → h2 o = none → (∀ a, mheap g P σ2 a ≠ none → f_or h2 (fO g o v2) a = none) → V p l e room_1 s m #[Value.ref b] below meth c (lw_Z below #[Value.ref b] s) 7 g A (f_or (f_or h2 (fO g o v2)) (mheap g P σ2)) (C0 + 60 * n + ce) (S0 + 9000 * n + sl) 1621 [some (.ref b), some (.ref x), some (.ref (P 0)), some (.ref o), some (.int (iI (5 * (n : Int)))), none, none] [] := by
        intro ce sl h2 v2 σ2 hce hsl hg8 hX2 ho2 hd2
        refine v_iinc F (pc := 1621) (lo' := [some (.ref b), some (.ref x), some (.ref (P 0)), some (.ref o), some (.int (iI (5 * (n : Int) + 5))), none, none]) dL_law_1621 rfl (Nat.le_of_ble_eq_true rfl) rfl ?_
        refine v_goto F (pc := 1624) 23 dL_law_1624 (by decide) ?_
        have k := ih (n + 1) h2 v2 σ2 hX2 ho2 hd2 (by omega) (by omega) (by omega)
        rw [show (5 : Int) * ((n + 1 : Nat) : Int) = 5 * (n : Int) + 5 by omega] at k
        exact v_wid (by omega) (by omega) k
      refine v_aload_n F (pc := 32) dL_law_32 rfl ?_
      refine v_iload F (pc := 33) dL_law_33 rfl ?_
      refine v_sld F (pc := 35) hXs hbl hbA (z := 5 * (n : Int)) (by omega) hL dL_law_35 ?_
      refine v_bipush F (pc := 36) dL_law_36 (by decide) ?_
      refine v_iand F (pc := 38) dL_law_38 (fun y => ?_)
      rcases (show y.toInt = 0 ∨ y.toInt = 1 ∨ y.toInt = 2 ∨ y.toInt = 3 ∨ y.toInt = 4 ∨ y.toInt = 5 ∨ y.toInt = 6 ∨ y.toInt = 7 ∨ y.toInt = 8 ∨ y.toInt = 9 ∨ y.toInt = 10 ∨ y.toInt = 11 ∨ y.toInt = 12 ∨ y.toInt = 13 ∨ y.toInt = 14 ∨ y.toInt = 15 ∨ y.toInt = 16 ∨ y.toInt = 17 ∨ y.toInt = 18 ∨ y.toInt = 19 ∨ y.toInt = 20 ∨ y.toInt = 21 ∨ y.toInt = 22 ∨ y.toInt = 23 ∨ (y.toInt < 0 ∨ 23 < y.toInt) by omega) with hy | hy | hy | hy | hy | hy | hy | hy | hy | hy | hy | hy | hy | hy | hy | hy | hy | hy | hy | hy | hy | hy | hy | hy | hy
      · exact v_tin F (pc := 39) (off := 109) 148 dL_law_39 (by rw [hy]; decide) (by rw [hy]; decide) (by rw [hy]; rfl) (by decide) (LC_addRack F hN hXs hbl hbA hL hi hP hX ho hd hgv hc hs (fun h2 v2 q1 q2 q3 => back _ _ h2 v2 _ (Nat.le_of_ble_eq_true rfl) (Nat.le_of_ble_eq_true rfl) (g8_addRack σ (sX xs (5 * (n : Int) + 1)) (sX xs (5 * (n : Int) + 2)) (sX xs (5 * (n : Int) + 3)) (sX xs (5 * (n : Int) + 4))) q1 q2 q3))
      · exact v_tin F (pc := 39) (off := 201) 240 dL_law_39 (by rw [hy]; decide) (by rw [hy]; decide) (by rw [hy]; rfl) (by decide) (LC_setRow F hN hXs hbl hbA hL hi hP hX ho hd hgv hc hs (fun h2 v2 q1 q2 q3 => back _ _ h2 v2 _ (Nat.le_of_ble_eq_true rfl) (Nat.le_of_ble_eq_true rfl) (g8_setRow σ (sX xs (5 * (n : Int) + 1)) (sX xs (5 * (n : Int) + 2)) (sX xs (5 * (n : Int) + 3))) q1 q2 q3))
      · exact v_tin F (pc := 39) (off := 261) 300 dL_law_39 (by rw [hy]; decide) (by rw [hy]; decide) (by rw [hy]; rfl) (by decide) (LC_setFeed F hN hXs hbl hbA hL hi hP hX ho hd hgv hc hs (fun h2 v2 q1 q2 q3 => back _ _ h2 v2 _ (Nat.le_of_ble_eq_true rfl) (Nat.le_of_ble_eq_true rfl) (g8_setFeed σ (sX xs (5 * (n : Int) + 1)) (sX xs (5 * (n : Int) + 2))) q1 q2 q3))
      · exact v_tin F (pc := 39) (off := 329) 368 dL_law_39 (by rw [hy]; decide) (by rw [hy]; decide) (by rw [hy]; rfl) (by decide) (LC_switchFeed F hN hXs hbl hbA hL hi hP hX ho hd hgv hc hs (fun h2 v2 q1 q2 q3 => back _ _ h2 v2 _ (Nat.le_of_ble_eq_true rfl) (Nat.le_of_ble_eq_true rfl) (g8_switchFeed σ (sX xs (5 * (n : Int) + 1))) q1 q2 q3))
      · exact v_tin F (pc := 39) (off := 385) 424 dL_law_39 (by rw [hy]; decide) (by rw [hy]; decide) (by rw [hy]; rfl) (by decide) (LC_hasFailed F hN hXs hbl hbA hL hi hP hX ho hd hgv hc hs (fun h2 v2 q1 q2 q3 => back _ _ h2 v2 _ (Nat.le_of_ble_eq_true rfl) (Nat.le_of_ble_eq_true rfl) (g8_su σ _) q1 q2 q3))
      · exact v_tin F (pc := 39) (off := 448) 487 dL_law_39 (by rw [hy]; decide) (by rw [hy]; decide) (by rw [hy]; rfl) (by decide) (LC_racks F hN hXs hbl hbA hL hi hP hX ho hd hgv hc hs (fun h2 v2 q1 q2 q3 => back _ _ h2 v2 _ (Nat.le_of_ble_eq_true rfl) (Nat.le_of_ble_eq_true rfl) (g8_su σ _) q1 q2 q3))
      · exact v_tin F (pc := 39) (off := 461) 500 dL_law_39 (by rw [hy]; decide) (by rw [hy]; decide) (by rw [hy]; rfl) (by decide) (LC_place F hN hXs hbl hbA hL hi hP hX ho hd hgv hc hs (fun h2 v2 q1 q2 q3 => back _ _ h2 v2 _ (Nat.le_of_ble_eq_true rfl) (Nat.le_of_ble_eq_true rfl) (g8_place σ (sX xs (5 * (n : Int) + 1)) (sX xs (5 * (n : Int) + 2)) (sX xs (5 * (n : Int) + 3)) (sX xs (5 * (n : Int) + 4))) q1 q2 q3))
      · exact v_tin F (pc := 39) (off := 553) 592 dL_law_39 (by rw [hy]; decide) (by rw [hy]; decide) (by rw [hy]; rfl) (by decide) (LC_takeOut F hN hXs hbl hbA hL hi hP hX ho hd hgv hc hs (fun h2 v2 q1 q2 q3 => back _ _ h2 v2 _ (Nat.le_of_ble_eq_true rfl) (Nat.le_of_ble_eq_true rfl) (g8_takeOut σ (sX xs (5 * (n : Int) + 1))) q1 q2 q3))
      · exact v_tin F (pc := 39) (off := 609) 648 dL_law_39 (by rw [hy]; decide) (by rw [hy]; decide) (by rw [hy]; rfl) (by decide) (LC_cord F hN hXs hbl hbA hL hi hP hX ho hd hgv hc hs (fun h2 v2 q1 q2 q3 => back _ _ h2 v2 _ (Nat.le_of_ble_eq_true rfl) (Nat.le_of_ble_eq_true rfl) (g8_cord σ (sX xs (5 * (n : Int) + 1)) (sX xs (5 * (n : Int) + 2))) q1 q2 q3))
      · exact v_tin F (pc := 39) (off := 677) 716 dL_law_39 (by rw [hy]; decide) (by rw [hy]; decide) (by rw [hy]; rfl) (by decide) (LC_pack F hN hXs hbl hbA hL hi hP hX ho hd hgv hc hs (fun h2 v2 q1 q2 q3 => back _ _ h2 v2 _ (Nat.le_of_ble_eq_true rfl) (Nat.le_of_ble_eq_true rfl) (g8_pack σ) q1 q2 q3))
      · exact v_tin F (pc := 39) (off := 690) 729 dL_law_39 (by rw [hy]; decide) (by rw [hy]; decide) (by rw [hy]; rfl) (by decide) (LC_machines F hN hXs hbl hbA hL hi hP hX ho hd hgv hc hs (fun h2 v2 q1 q2 q3 => back _ _ h2 v2 _ (Nat.le_of_ble_eq_true rfl) (Nat.le_of_ble_eq_true rfl) (g8_su σ _) q1 q2 q3))
      · exact v_tin F (pc := 39) (off := 703) 742 dL_law_39 (by rw [hy]; decide) (by rw [hy]; decide) (by rw [hy]; rfl) (by decide) (LC_rackOf F hN hXs hbl hbA hL hi hP hX ho hd hgv hc hs (fun h2 v2 q1 q2 q3 => back _ _ h2 v2 _ (Nat.le_of_ble_eq_true rfl) (Nat.le_of_ble_eq_true rfl) (g8_su σ _) q1 q2 q3))
      · exact v_tin F (pc := 39) (off := 759) 798 dL_law_39 (by rw [hy]; decide) (by rw [hy]; decide) (by rw [hy]; rfl) (by decide) (LC_slotOf F hN hXs hbl hbA hL hi hP hX ho hd hgv hc hs (fun h2 v2 q1 q2 q3 => back _ _ h2 v2 _ (Nat.le_of_ble_eq_true rfl) (Nat.le_of_ble_eq_true rfl) (g8_su σ _) q1 q2 q3))
      · exact v_tin F (pc := 39) (off := 815) 854 dL_law_39 (by rw [hy]; decide) (by rw [hy]; decide) (by rw [hy]; rfl) (by decide) (LC_isDark F hN hXs hbl hbA hL hi hP hX ho hd hgv hc hs (fun h2 v2 q1 q2 q3 => back _ _ h2 v2 _ (Nat.le_of_ble_eq_true rfl) (Nat.le_of_ble_eq_true rfl) (g8_su σ _) q1 q2 q3))
      · exact v_tin F (pc := 39) (off := 878) 917 dL_law_39 (by rw [hy]; decide) (by rw [hy]; decide) (by rw [hy]; rfl) (by decide) (LC_machineAt F hN hXs hbl hbA hL hi hP hX ho hd hgv hc hs (fun h2 v2 q1 q2 q3 => back _ _ h2 v2 _ (Nat.le_of_ble_eq_true rfl) (Nat.le_of_ble_eq_true rfl) (g8_su σ _) q1 q2 q3))
      · exact v_tin F (pc := 39) (off := 946) 985 dL_law_39 (by rw [hy]; decide) (by rw [hy]; decide) (by rw [hy]; rfl) (by decide) (LC_next F hN hXs hbl hbA hL hi hP hX ho hd hgv hc hs (fun h2 v2 q1 q2 q3 => back _ _ h2 v2 _ (Nat.le_of_ble_eq_true rfl) (Nat.le_of_ble_eq_true rfl) (g8_su σ _) q1 q2 q3))
      · exact v_tin F (pc := 39) (off := 1002) 1041 dL_law_39 (by rw [hy]; decide) (by rw [hy]; decide) (by rw [hy]; rfl) (by decide) (LC_powerOf F hN hXs hbl hbA hL hi hP hX ho hd hgv hc hs (fun h2 v2 q1 q2 q3 => back _ _ h2 v2 _ (Nat.le_of_ble_eq_true rfl) (Nat.le_of_ble_eq_true rfl) (g8_su σ _) q1 q2 q3))
      · exact v_tin F (pc := 39) (off := 1070) 1109 dL_law_39 (by rw [hy]; decide) (by rw [hy]; decide) (by rw [hy]; rfl) (by decide) (LC_worstOf F hN hXs hbl hbA hL hi hP hX ho hd hgv hc hs (fun h2 v2 q1 q2 q3 => back _ _ h2 v2 _ (Nat.le_of_ble_eq_true rfl) (Nat.le_of_ble_eq_true rfl) (g8_su σ _) q1 q2 q3))
      · exact v_tin F (pc := 39) (off := 1138) 1177 dL_law_39 (by rw [hy]; decide) (by rw [hy]; decide) (by rw [hy]; rfl) (by decide) (LC_weightOf F hN hXs hbl hbA hL hi hP hX ho hd hgv hc hs (fun h2 v2 q1 q2 q3 => back _ _ h2 v2 _ (Nat.le_of_ble_eq_true rfl) (Nat.le_of_ble_eq_true rfl) (g8_su σ _) q1 q2 q3))
      · exact v_tin F (pc := 39) (off := 1194) 1233 dL_law_39 (by rw [hy]; decide) (by rw [hy]; decide) (by rw [hy]; rfl) (by decide) (LC_heatOf F hN hXs hbl hbA hL hi hP hX ho hd hgv hc hs (fun h2 v2 q1 q2 q3 => back _ _ h2 v2 _ (Nat.le_of_ble_eq_true rfl) (Nat.le_of_ble_eq_true rfl) (g8_su σ _) q1 q2 q3))
      · exact v_tin F (pc := 39) (off := 1250) 1289 dL_law_39 (by rw [hy]; decide) (by rw [hy]; decide) (by rw [hy]; rfl) (by decide) (LC_gap F hN hXs hbl hbA hL hi hP hX ho hd hgv hc hs (fun h2 v2 q1 q2 q3 => back _ _ h2 v2 _ (Nat.le_of_ble_eq_true rfl) (Nat.le_of_ble_eq_true rfl) (g8_su σ _) q1 q2 q3))
      · exact v_tin F (pc := 39) (off := 1306) 1345 dL_law_39 (by rw [hy]; decide) (by rw [hy]; decide) (by rw [hy]; rfl) (by decide) (LC_racksFor F hN hXs hbl hbA hL hi hP hX ho hd hgv hc hs (fun h2 v2 q1 q2 q3 => back _ _ h2 v2 _ (Nat.le_of_ble_eq_true rfl) (Nat.le_of_ble_eq_true rfl) (g8_su σ _) q1 q2 q3))
      · exact v_tin F (pc := 39) (off := 1398) 1437 dL_law_39 (by rw [hy]; decide) (by rw [hy]; decide) (by rw [hy]; rfl) (by decide) (LC_roomFor F hN hXs hbl hbA hL hi hP hX ho hd hgv hc hs (fun h2 v2 q1 q2 q3 => back _ _ h2 v2 _ (Nat.le_of_ble_eq_true rfl) (Nat.le_of_ble_eq_true rfl) (g8_su σ _) q1 q2 q3))
      · exact v_tin F (pc := 39) (off := 1490) 1529 dL_law_39 (by rw [hy]; decide) (by rw [hy]; decide) (by rw [hy]; rfl) (by decide) (LC_roomByCounting F hN hXs hbl hbA hL hi hP hX ho hd hgv hc hs (fun h2 v2 q1 q2 q3 => back _ _ h2 v2 _ (Nat.le_of_ble_eq_true rfl) (Nat.le_of_ble_eq_true rfl) (g8_su σ _) q1 q2 q3))
      · exact v_tout F (pc := 39) 1621 dL_law_39 hy (by decide) (back 0 0 hC v0 σ (by decide) (by decide) (by omega) hX ho hd)
