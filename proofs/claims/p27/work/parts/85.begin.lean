/-! ===== the law: a new object, the walk from its entry ===== -/
theorem mb_0 : MB σ0 := by
  intro f z h0 h1
  have v : σ0 f z = 0 ∨ ((f = 6 ∨ f = 7) ∧ σ0 f z = 10000) ∨ (f = 8 ∧ σ0 f z = 20000) := by
    unfold σ0
    by_cases c1 : f = 6 ∨ f = 7
    · rw [if_pos c1]
      unfold iup
      (repeat' split) <;> first | exact Or.inr (Or.inl ⟨c1, rfl⟩) | exact Or.inl rfl
    · rw [if_neg c1]
      by_cases c2 : f = 8
      · rw [if_pos c2]
        unfold iup
        (repeat' split) <;> first | exact Or.inr (Or.inr ⟨c2, rfl⟩) | exact Or.inl rfl
      · rw [if_neg c2]; exact Or.inl rfl
  rcases v with v | ⟨c, v⟩ | ⟨c, v⟩
  · rw [v]
    unfold mlo mhi
    (repeat' split) <;> omega
  · rw [v]
    rcases c with c | c <;> subst c <;> decide
  · rw [v]
    subst c
    decide
theorem σ6 {z : Int} (a : 0 ≤ z) (b : z < 4) : σ0 6 z = 10000 ∧ σ0 7 z = 10000 := by
  rcases (show z = 0 ∨ z = 1 ∨ z = 2 ∨ z = 3 by omega) with rfl | rfl | rfl | rfl <;> exact ⟨rfl, rfl⟩
theorem σ8 {z : Int} (a : 0 ≤ z) (b : z < 2) : σ0 8 z = 20000 := by
  rcases (show z = 0 ∨ z = 1 by omega) with rfl | rfl <;> rfl
theorem τ20 {z : Int} (a : 0 ≤ z) (b : z < 4) : τ0 20 z = 10000 ∧ τ0 21 z = 10000 := ⟨cFil_rng (F := fun _ => 0) a b, cFil_rng (F := fun _ => 0) a b⟩
theorem τ22 {z : Int} (a : 0 ≤ z) (b : z < 2) : τ0 22 z = 20000 := cFil_rng (F := fun _ => 0) a b
theorem SX_0 (g : gT) {P : Nat → Nat} (hk : cok P (fun _ => 0) (fun _ => 0)) : SX g (P 0) (cheap g P (fun _ => 0) (fun _ _ => none) (fun _ => 0) 5 12 τ0) σ0 := by
  have n17 : σ0 17 0 = 0 := rfl
  have n5 : σ0 5 0 = 0 := rfl
  have we : ∀ r, m_weighs σ0 r = 0 := fun r => rfl
  have wo : ∀ r f, m_worst σ0 r f = 0 := fun r f => rfl
  have hh : ∀ r, m_hts σ0 r = 0 := fun r => rfl
  have rw_ : ∀ r, m_rowWeighs σ0 r = 0 := fun r => rfl
  have rh : ∀ r, m_rowHeats σ0 r = 0 := fun r => rfl
  have ins : ∀ r s, m_inSlot σ0 r s = -1 := fun r s => rfl
  refine ⟨P, _, _, _, 5, 12, τ0, rfl, rfl, hk, Or.inl ⟨rfl, rfl⟩, ⟨fun q h => absurd h (show ¬ (0 : Nat) = 1 by decide), fun q h => absurd h (show ¬ (0 : Nat) = 2 by decide), ⟨by decide, by decide, by decide, by decide, fun k a b => ?_⟩, ⟨by decide, by decide, by decide, by decide, fun k a b => ?_⟩, ⟨by decide, by decide, by decide, by decide, fun k a b => ?_⟩, fun z a b => ?_, fun z a b => ?_, fun z a b => ?_, fun z a b => ?_, ?_⟩, ⟨mb_0, fun k a b => ?_, fun k a b => ?_, fun j k a b => ?_, ⟨fun j k a b c => ?_, fun k a b => ?_⟩, ⟨fun r a b => ?_, fun row a b => ?_, ?_, ?_⟩⟩, ⟨rfl, fun k a b => ?_, fun z a b => ?_, fun z a b => ?_⟩, ⟨rfl, fun k a b => ?_, rfl, fun z a b => rfl⟩, fun k a b => ?_, ⟨fun k a b => ?_, fun k s a b c d => ?_⟩⟩
  · exact absurd b (by show ¬ k < 0; omega)
  · exact absurd b (by show ¬ k < 0; omega)
  · exact absurd b (by show ¬ k < 0; omega)
  · rw [(τ20 a b).1]; decide
  · rw [(τ20 a b).2]; decide
  · rw [τ22 a b]; decide
  · show (0 : Int) ≤ 0 ∧ (0 : Int) ≤ 1; decide
  · show (0 : Int) ≤ 0 ∧ (0 : Int) ≤ 1000000; decide
  · rw [n17] at b; omega
  · rw [n17] at b; omega
  · rw [n17] at b; omega
  · rw [n17] at c; omega
  · rw [n17] at b; omega
  · rw [n5] at b; omega
  · rw [rw_, rh, (σ6 a b).1, (σ6 a b).2]; decide
  · rw [wo, σ8 (by decide) (by decide)]; decide
  · rw [wo, σ8 (by decide) (by decide)]; decide
  · rw [n5] at b; omega
  · rw [(τ20 a b).1, (τ20 a b).2, (σ6 a b).1, (σ6 a b).2]; exact ⟨rfl, rfl⟩
  · rw [τ22 a b, σ8 a b]
  · rw [n17] at b; omega
  · rw [n17] at b; omega
  · rw [we, hh, wo, wo]; exact ⟨rfl, rfl, rfl, rfl⟩
  · rw [ins, if_pos rfl]; exact cFil_rng (F := fun _ => 0) (by omega) (by omega)
theorem f_or_none {h : fH} : f_or h (fun _ => none) = h := by
  funext q
  unfold f_or
  cases h q <;> rfl
set_option maxRecDepth 100000 in
set_option maxHeartbeats 8000000 in
theorem whole_start {p : Program} {e : Env} {s : State} {m : MethodId} {below : List Frame} {meth : Method} {c : Code} (l : Launch) (hflags : l.flags = flags0) {b L : Nat} {xs : Nat → Int32} (hL : L ≤ 260) (C0 : lw_At p s m meth c b L xs) : W p l e room_1 s m #[Value.ref b] below meth c s.heap [] 0 0 (lw_Z below #[Value.ref b] s) (entryFrame m ([Value.ref b] : List Value).toArray 24) := by
  obtain ⟨hx, hb, hr, hml, hown, hts, hXs, hbl, hlocks, hgv⟩ := id C0
  obtain ⟨g, hKK, hST⟩ := start_g hts hgv
  have hl9 : l.stackTraces = false := by unfold Launch.stackTraces; rw [hflags]; decide
  have F : Fx p l s m #[Value.ref b] meth c cL_law 24 ret RL g (fun q => s.heap.size ≤ q) := ⟨hx, hb, hml, hr, hown, hlocks, hKK, hST, fun q h => h, hl9, fun w hw => hts w (lwT_tbl hw)⟩
  have hbA : ¬ (fun q : Nat => s.heap.size ≤ q) b := Nat.not_le.mpr hbl
  have main : V p l e room_1 s m #[Value.ref b] below meth c (lw_Z below #[Value.ref b] s) 24 g (fun q => s.heap.size ≤ q) (fun _ => none) 0 0 0 (some (.ref b) :: List.replicate 23 none) [] := by
    show V p l e room_1 s m #[Value.ref b] below meth c (lw_Z below #[Value.ref b] s) 24 g (fun q => s.heap.size ≤ q) (fun _ => none) 0 0 0 [some (.ref b), none, none, none, none, none, none, none, none, none, none, none, none, none, none, none, none, none, none, none, none, none, none, none] []
    refine v_new F (pc := 0) fn_L_8 dL_law_0 (Nat.le_of_ble_eq_true rfl) (Nat.le_of_ble_eq_true rfl) (fun x _ => ?_)
    refine v_dup F (pc := 3) dL_law_3 rfl ?_
    refine v_callI F (pc := 4) (As := []) (rest := [.ref x]) ci_L_89 ct_X4_init rfl (k_X4_init l g (f_up_s _ _ _)) dL_law_4 rfl rfl (Nat.le_of_ble_eq_true rfl) (Nat.le_of_ble_eq_true rfl) (Nat.le_of_ble_eq_true rfl) (Nat.le_of_ble_eq_true rfl) (Nat.le_of_ble_eq_true rfl) (fun v h1 hp => ?_)
    obtain ⟨rfl, P, rfl, hk, hsub⟩ := hp
    have hX0 := SX_0 g hk
    generalize cheap g P (fun _ => 0) (fun _ _ => none) (fun _ => 0) 5 12 τ0 = hC at hX0 hsub
    generalize P 0 = x at hX0 ⊢
    refine V.sub (h' := hC) ?_ hsub
    have XC : SL g x hC σ0 (fun _ => none) := ⟨hC, hX0, f_or_none.symm, fun a ha => absurd rfl ha⟩
    obtain ⟨fsC, oC⟩ := XC.obj
    refine v_astore_n F (pc := 7) (lo' := [some (.ref b), some (.ref x), none, none, none, none, none, none, none, none, none, none, none, none, none, none, none, none, none, none, none, none, none, none]) dL_law_7 (Nat.le_of_ble_eq_true rfl) rfl ?_
    refine v_bipush F (pc := 8) dL_law_8 (by decide) ?_
    refine v_newi F (pc := 10) (n := 8) dL_law_10 (by decide) (Nat.le_of_ble_eq_true rfl) (Nat.le_of_ble_eq_true rfl) (fun a2 na2 => ?_)
    have X1 := XC.new (e := (iar (g.2.1 0) 8 (fun _ => 0))) na2
    obtain ⟨k1, ek1⟩ : ∃ kk_, kk_ = f_up (fun _ => none) a2 (iar (g.2.1 0) 8 (fun _ => 0)) := ⟨_, rfl⟩
    rw [← ek1] at X1
    generalize f_up hC a2 (iar (g.2.1 0) 8 (fun _ => 0)) = h1 at X1 ⊢
    obtain ⟨fs1, o1⟩ := X1.obj
    have z1_a2 : k1 a2 = some (iar (g.2.1 0) 8 (fun _ => 0)) := by rw [ek1, f_up_s]
    refine v_astore_n F (pc := 12) (lo' := [some (.ref b), some (.ref x), some (.ref a2), none, none, none, none, none, none, none, none, none, none, none, none, none, none, none, none, none, none, none, none, none]) dL_law_12 (Nat.le_of_ble_eq_true rfl) rfl ?_
    refine v_bipush F (pc := 13) dL_law_13 (by decide) ?_
    refine v_newi F (pc := 15) (n := 8) dL_law_15 (by decide) (Nat.le_of_ble_eq_true rfl) (Nat.le_of_ble_eq_true rfl) (fun a3 na3 => ?_)
    have X2 := X1.new (e := (iar (g.2.1 0) 8 (fun _ => 0))) na3
    obtain ⟨k2, ek2⟩ : ∃ kk_, kk_ = f_up k1 a3 (iar (g.2.1 0) 8 (fun _ => 0)) := ⟨_, rfl⟩
    rw [← ek2] at X2
    have d23 : a2 ≠ a3 := fun z => by rw [← z, X1.cel z1_a2] at na3; cases na3
    generalize f_up h1 a3 (iar (g.2.1 0) 8 (fun _ => 0)) = h2 at X2 ⊢
    obtain ⟨fs2, o2⟩ := X2.obj
    have z2_a2 : k2 a2 = some (iar (g.2.1 0) 8 (fun _ => 0 : Int → Int)) := by rw [ek2, f_up_n d23]; exact z1_a2
    have z2_a3 : k2 a3 = some (iar (g.2.1 0) 8 (fun _ => 0)) := by rw [ek2, f_up_s]
    refine v_astore_n F (pc := 17) (lo' := [some (.ref b), some (.ref x), some (.ref a2), some (.ref a3), none, none, none, none, none, none, none, none, none, none, none, none, none, none, none, none, none, none, none, none]) dL_law_17 (Nat.le_of_ble_eq_true rfl) rfl ?_
    refine v_bipush F (pc := 18) dL_law_18 (by decide) ?_
    refine v_newi F (pc := 20) (n := 8) dL_law_20 (by decide) (Nat.le_of_ble_eq_true rfl) (Nat.le_of_ble_eq_true rfl) (fun a4 na4 => ?_)
    have X3 := X2.new (e := (iar (g.2.1 0) 8 (fun _ => 0))) na4
    obtain ⟨k3, ek3⟩ : ∃ kk_, kk_ = f_up k2 a4 (iar (g.2.1 0) 8 (fun _ => 0)) := ⟨_, rfl⟩
    rw [← ek3] at X3
    have d24 : a2 ≠ a4 := fun z => by rw [← z, X2.cel z2_a2] at na4; cases na4
    have d34 : a3 ≠ a4 := fun z => by rw [← z, X2.cel z2_a3] at na4; cases na4
    generalize f_up h2 a4 (iar (g.2.1 0) 8 (fun _ => 0)) = h3 at X3 ⊢
    obtain ⟨fs3, o3⟩ := X3.obj
    have z3_a2 : k3 a2 = some (iar (g.2.1 0) 8 (fun _ => 0 : Int → Int)) := by rw [ek3, f_up_n d24]; exact z2_a2
    have z3_a3 : k3 a3 = some (iar (g.2.1 0) 8 (fun _ => 0 : Int → Int)) := by rw [ek3, f_up_n d34]; exact z2_a3
    have z3_a4 : k3 a4 = some (iar (g.2.1 0) 8 (fun _ => 0)) := by rw [ek3, f_up_s]
    refine v_astore F (pc := 22) (lo' := [some (.ref b), some (.ref x), some (.ref a2), some (.ref a3), some (.ref a4), none, none, none, none, none, none, none, none, none, none, none, none, none, none, none, none, none, none, none]) dL_law_22 (Nat.le_of_ble_eq_true rfl) rfl ?_
    refine v_iconst F (pc := 24) dL_law_24 ?_
    refine v_newi F (pc := 25) (n := 4) dL_law_25 (by decide) (Nat.le_of_ble_eq_true rfl) (Nat.le_of_ble_eq_true rfl) (fun a5 na5 => ?_)
    have X4 := X3.new (e := (iar (g.2.1 0) 4 (fun _ => 0))) na5
    obtain ⟨k4, ek4⟩ : ∃ kk_, kk_ = f_up k3 a5 (iar (g.2.1 0) 4 (fun _ => 0)) := ⟨_, rfl⟩
    rw [← ek4] at X4
    have d25 : a2 ≠ a5 := fun z => by rw [← z, X3.cel z3_a2] at na5; cases na5
    have d35 : a3 ≠ a5 := fun z => by rw [← z, X3.cel z3_a3] at na5; cases na5
    have d45 : a4 ≠ a5 := fun z => by rw [← z, X3.cel z3_a4] at na5; cases na5
    generalize f_up h3 a5 (iar (g.2.1 0) 4 (fun _ => 0)) = h4 at X4 ⊢
    obtain ⟨fs4, o4⟩ := X4.obj
    have z4_a2 : k4 a2 = some (iar (g.2.1 0) 8 (fun _ => 0 : Int → Int)) := by rw [ek4, f_up_n d25]; exact z3_a2
    have z4_a3 : k4 a3 = some (iar (g.2.1 0) 8 (fun _ => 0 : Int → Int)) := by rw [ek4, f_up_n d35]; exact z3_a3
    have z4_a4 : k4 a4 = some (iar (g.2.1 0) 8 (fun _ => 0 : Int → Int)) := by rw [ek4, f_up_n d45]; exact z3_a4
    have z4_a5 : k4 a5 = some (iar (g.2.1 0) 4 (fun _ => 0)) := by rw [ek4, f_up_s]
    refine v_astore F (pc := 27) (lo' := [some (.ref b), some (.ref x), some (.ref a2), some (.ref a3), some (.ref a4), some (.ref a5), none, none, none, none, none, none, none, none, none, none, none, none, none, none, none, none, none, none]) dL_law_27 (Nat.le_of_ble_eq_true rfl) rfl ?_
    refine v_iconst F (pc := 29) dL_law_29 ?_
    refine v_istore F (pc := 30) (lo' := [some (.ref b), some (.ref x), some (.ref a2), some (.ref a3), some (.ref a4), some (.ref a5), some (.int (iI (0))), none, none, none, none, none, none, none, none, none, none, none, none, none, none, none, none, none]) dL_law_30 (Nat.le_of_ble_eq_true rfl) rfl ?_
    refine v_iload F (pc := 32) dL_law_32 rfl ?_
    refine v_iconst F (pc := 34) dL_law_34 ?_
    refine v_icmp_ge F (pc := 35) (a := 0) (b := 4) 52 dL_law_35 (by decide) (by omega) (by omega) (fun c_1 => ?_) (fun c_1 => ?_)
    · exact absurd c_1 (by decide)
    · refine v_aload F (pc := 38) dL_law_38 rfl ?_
      refine v_iload F (pc := 40) dL_law_40 rfl ?_
      refine v_sipush F (pc := 42) dL_law_42 (by decide) ?_
      refine v_iast F (pc := 45) (n := 4) (f := (fun _ => 0 : Int → Int)) (z := 0) (x := 10000) dL_law_45 (X4.cel z4_a5) (by omega) (by decide) (h' := (f_up h4 a5 (iar (g.2.1 0) 4 (iup (fun _ => 0 : Int → Int) (0) (10000))))) rfl ?_
      have X5 := X4.up (e' := (iar (g.2.1 0) 4 (iup (fun _ => 0 : Int → Int) (0) (10000)))) z4_a5
      obtain ⟨k5, ek5⟩ : ∃ kk_, kk_ = f_up k4 a5 (iar (g.2.1 0) 4 (iup (fun _ => 0 : Int → Int) (0) (10000))) := ⟨_, rfl⟩
      rw [← ek5] at X5
      generalize f_up h4 a5 (iar (g.2.1 0) 4 (iup (fun _ => 0 : Int → Int) (0) (10000))) = h5 at X5 ⊢
      obtain ⟨fs5, o5⟩ := X5.obj
      have z5_a2 : k5 a2 = some (iar (g.2.1 0) 8 (fun _ => 0 : Int → Int)) := by rw [ek5, f_up_n d25]; exact z4_a2
      have z5_a3 : k5 a3 = some (iar (g.2.1 0) 8 (fun _ => 0 : Int → Int)) := by rw [ek5, f_up_n d35]; exact z4_a3
      have z5_a4 : k5 a4 = some (iar (g.2.1 0) 8 (fun _ => 0 : Int → Int)) := by rw [ek5, f_up_n d45]; exact z4_a4
      have z5_a5 : k5 a5 = some (iar (g.2.1 0) 4 (iup (fun _ => 0 : Int → Int) (0) (10000))) := by rw [ek5, f_up_s]
      refine v_iinc F (pc := 46) (lo' := [some (.ref b), some (.ref x), some (.ref a2), some (.ref a3), some (.ref a4), some (.ref a5), some (.int (iI (1))), none, none, none, none, none, none, none, none, none, none, none, none, none, none, none, none, none]) dL_law_46 rfl (Nat.le_of_ble_eq_true rfl) rfl ?_
      refine v_goto F (pc := 49) 32 dL_law_49 (by decide) ?_
      refine v_iload F (pc := 32) dL_law_32 rfl ?_
      refine v_iconst F (pc := 34) dL_law_34 ?_
      refine v_icmp_ge F (pc := 35) (a := 1) (b := 4) 52 dL_law_35 (by decide) (by omega) (by omega) (fun c_2 => ?_) (fun c_2 => ?_)
      · exact absurd c_2 (by decide)
      · refine v_aload F (pc := 38) dL_law_38 rfl ?_
        refine v_iload F (pc := 40) dL_law_40 rfl ?_
        refine v_sipush F (pc := 42) dL_law_42 (by decide) ?_
        refine v_iast F (pc := 45) (n := 4) (f := iup (fun _ => 0 : Int → Int) (0) (10000)) (z := 1) (x := 10000) dL_law_45 (X5.cel z5_a5) (by omega) (by decide) (h' := (f_up h5 a5 (iar (g.2.1 0) 4 (iup (iup (fun _ => 0 : Int → Int) (0) (10000)) (1) (10000))))) rfl ?_
        have X6 := X5.up (e' := (iar (g.2.1 0) 4 (iup (iup (fun _ => 0 : Int → Int) (0) (10000)) (1) (10000)))) z5_a5
        obtain ⟨k6, ek6⟩ : ∃ kk_, kk_ = f_up k5 a5 (iar (g.2.1 0) 4 (iup (iup (fun _ => 0 : Int → Int) (0) (10000)) (1) (10000))) := ⟨_, rfl⟩
        rw [← ek6] at X6
        generalize f_up h5 a5 (iar (g.2.1 0) 4 (iup (iup (fun _ => 0 : Int → Int) (0) (10000)) (1) (10000))) = h6 at X6 ⊢
        obtain ⟨fs6, o6⟩ := X6.obj
        have z6_a2 : k6 a2 = some (iar (g.2.1 0) 8 (fun _ => 0 : Int → Int)) := by rw [ek6, f_up_n d25]; exact z5_a2
        have z6_a3 : k6 a3 = some (iar (g.2.1 0) 8 (fun _ => 0 : Int → Int)) := by rw [ek6, f_up_n d35]; exact z5_a3
        have z6_a4 : k6 a4 = some (iar (g.2.1 0) 8 (fun _ => 0 : Int → Int)) := by rw [ek6, f_up_n d45]; exact z5_a4
        have z6_a5 : k6 a5 = some (iar (g.2.1 0) 4 (iup (iup (fun _ => 0 : Int → Int) (0) (10000)) (1) (10000))) := by rw [ek6, f_up_s]
        refine v_iinc F (pc := 46) (lo' := [some (.ref b), some (.ref x), some (.ref a2), some (.ref a3), some (.ref a4), some (.ref a5), some (.int (iI (2))), none, none, none, none, none, none, none, none, none, none, none, none, none, none, none, none, none]) dL_law_46 rfl (Nat.le_of_ble_eq_true rfl) rfl ?_
        refine v_goto F (pc := 49) 32 dL_law_49 (by decide) ?_
        refine v_iload F (pc := 32) dL_law_32 rfl ?_
        refine v_iconst F (pc := 34) dL_law_34 ?_
        refine v_icmp_ge F (pc := 35) (a := 2) (b := 4) 52 dL_law_35 (by decide) (by omega) (by omega) (fun c_3 => ?_) (fun c_3 => ?_)
        · exact absurd c_3 (by decide)
        · refine v_aload F (pc := 38) dL_law_38 rfl ?_
          refine v_iload F (pc := 40) dL_law_40 rfl ?_
          refine v_sipush F (pc := 42) dL_law_42 (by decide) ?_
          refine v_iast F (pc := 45) (n := 4) (f := iup (iup (fun _ => 0 : Int → Int) (0) (10000)) (1) (10000)) (z := 2) (x := 10000) dL_law_45 (X6.cel z6_a5) (by omega) (by decide) (h' := (f_up h6 a5 (iar (g.2.1 0) 4 (iup (iup (iup (fun _ => 0 : Int → Int) (0) (10000)) (1) (10000)) (2) (10000))))) rfl ?_
          have X7 := X6.up (e' := (iar (g.2.1 0) 4 (iup (iup (iup (fun _ => 0 : Int → Int) (0) (10000)) (1) (10000)) (2) (10000)))) z6_a5
          obtain ⟨k7, ek7⟩ : ∃ kk_, kk_ = f_up k6 a5 (iar (g.2.1 0) 4 (iup (iup (iup (fun _ => 0 : Int → Int) (0) (10000)) (1) (10000)) (2) (10000))) := ⟨_, rfl⟩
          rw [← ek7] at X7
          generalize f_up h6 a5 (iar (g.2.1 0) 4 (iup (iup (iup (fun _ => 0 : Int → Int) (0) (10000)) (1) (10000)) (2) (10000))) = h7 at X7 ⊢
          obtain ⟨fs7, o7⟩ := X7.obj
          have z7_a2 : k7 a2 = some (iar (g.2.1 0) 8 (fun _ => 0 : Int → Int)) := by rw [ek7, f_up_n d25]; exact z6_a2
          have z7_a3 : k7 a3 = some (iar (g.2.1 0) 8 (fun _ => 0 : Int → Int)) := by rw [ek7, f_up_n d35]; exact z6_a3
          have z7_a4 : k7 a4 = some (iar (g.2.1 0) 8 (fun _ => 0 : Int → Int)) := by rw [ek7, f_up_n d45]; exact z6_a4
          have z7_a5 : k7 a5 = some (iar (g.2.1 0) 4 (iup (iup (iup (fun _ => 0 : Int → Int) (0) (10000)) (1) (10000)) (2) (10000))) := by rw [ek7, f_up_s]
          refine v_iinc F (pc := 46) (lo' := [some (.ref b), some (.ref x), some (.ref a2), some (.ref a3), some (.ref a4), some (.ref a5), some (.int (iI (3))), none, none, none, none, none, none, none, none, none, none, none, none, none, none, none, none, none]) dL_law_46 rfl (Nat.le_of_ble_eq_true rfl) rfl ?_
          refine v_goto F (pc := 49) 32 dL_law_49 (by decide) ?_
          refine v_iload F (pc := 32) dL_law_32 rfl ?_
          refine v_iconst F (pc := 34) dL_law_34 ?_
          refine v_icmp_ge F (pc := 35) (a := 3) (b := 4) 52 dL_law_35 (by decide) (by omega) (by omega) (fun c_4 => ?_) (fun c_4 => ?_)
          · exact absurd c_4 (by decide)
          · refine v_aload F (pc := 38) dL_law_38 rfl ?_
            refine v_iload F (pc := 40) dL_law_40 rfl ?_
            refine v_sipush F (pc := 42) dL_law_42 (by decide) ?_
            refine v_iast F (pc := 45) (n := 4) (f := iup (iup (iup (fun _ => 0 : Int → Int) (0) (10000)) (1) (10000)) (2) (10000)) (z := 3) (x := 10000) dL_law_45 (X7.cel z7_a5) (by omega) (by decide) (h' := (f_up h7 a5 (iar (g.2.1 0) 4 (iup (iup (iup (iup (fun _ => 0 : Int → Int) (0) (10000)) (1) (10000)) (2) (10000)) (3) (10000))))) rfl ?_
            have X8 := X7.up (e' := (iar (g.2.1 0) 4 (iup (iup (iup (iup (fun _ => 0 : Int → Int) (0) (10000)) (1) (10000)) (2) (10000)) (3) (10000)))) z7_a5
            obtain ⟨k8, ek8⟩ : ∃ kk_, kk_ = f_up k7 a5 (iar (g.2.1 0) 4 (iup (iup (iup (iup (fun _ => 0 : Int → Int) (0) (10000)) (1) (10000)) (2) (10000)) (3) (10000))) := ⟨_, rfl⟩
            rw [← ek8] at X8
            generalize f_up h7 a5 (iar (g.2.1 0) 4 (iup (iup (iup (iup (fun _ => 0 : Int → Int) (0) (10000)) (1) (10000)) (2) (10000)) (3) (10000))) = h8 at X8 ⊢
            obtain ⟨fs8, o8⟩ := X8.obj
            have z8_a2 : k8 a2 = some (iar (g.2.1 0) 8 (fun _ => 0 : Int → Int)) := by rw [ek8, f_up_n d25]; exact z7_a2
            have z8_a3 : k8 a3 = some (iar (g.2.1 0) 8 (fun _ => 0 : Int → Int)) := by rw [ek8, f_up_n d35]; exact z7_a3
            have z8_a4 : k8 a4 = some (iar (g.2.1 0) 8 (fun _ => 0 : Int → Int)) := by rw [ek8, f_up_n d45]; exact z7_a4
            have z8_a5 : k8 a5 = some (iar (g.2.1 0) 4 (iup (iup (iup (iup (fun _ => 0 : Int → Int) (0) (10000)) (1) (10000)) (2) (10000)) (3) (10000))) := by rw [ek8, f_up_s]
            refine v_iinc F (pc := 46) (lo' := [some (.ref b), some (.ref x), some (.ref a2), some (.ref a3), some (.ref a4), some (.ref a5), some (.int (iI (4))), none, none, none, none, none, none, none, none, none, none, none, none, none, none, none, none, none]) dL_law_46 rfl (Nat.le_of_ble_eq_true rfl) rfl ?_
            refine v_goto F (pc := 49) 32 dL_law_49 (by decide) ?_
            refine v_iload F (pc := 32) dL_law_32 rfl ?_
            refine v_iconst F (pc := 34) dL_law_34 ?_
            refine v_icmp_ge F (pc := 35) (a := 4) (b := 4) 52 dL_law_35 (by decide) (by omega) (by omega) (fun c_5 => ?_) (fun c_5 => ?_)
            · refine v_iconst F (pc := 52) dL_law_52 ?_
              refine v_istore F (pc := 53) (lo' := [some (.ref b), some (.ref x), some (.ref a2), some (.ref a3), some (.ref a4), some (.ref a5), some (.int (iI (0))), none, none, none, none, none, none, none, none, none, none, none, none, none, none, none, none, none]) dL_law_53 (Nat.le_of_ble_eq_true rfl) rfl ?_
              refine v_aload_n F (pc := 55) dL_law_55 rfl ?_
              refine v_aload_n F (pc := 56) dL_law_56 rfl ?_
              refine v_callS F (pc := 57) (As := [.ref x, .ref a2]) (rest := []) ci_L_90 ct_L_isWalked (KL_isWalked l g X8 z8_a2 (fun r z1 z2 => absurd z2 (by show ¬ r < 0; omega))) dL_law_57 rfl rfl (Nat.le_of_ble_eq_true rfl) (Nat.le_of_ble_eq_true rfl) (Nat.le_of_ble_eq_true rfl) (Nat.le_of_ble_eq_true rfl) (Nat.le_of_ble_eq_true rfl) (fun v_ h9 hp_ => ?_) (fun _ _ z => z.elim)
              obtain ⟨rfl, X9⟩ := hp_
              obtain ⟨fs9, o9⟩ := X9.obj
              refine v_if_eq F (pc := 60) (a := 1) 75 dL_law_60 (by decide) (by omega) (fun c_6 => ?_) (fun c_6 => ?_)
              · exact absurd c_6 (by decide)
              · refine v_aload_n F (pc := 63) dL_law_63 rfl ?_
                refine v_aload_n F (pc := 64) dL_law_64 rfl ?_
                refine v_callS F (pc := 65) (As := [.ref x, .ref a3]) (rest := []) ci_L_94 ct_L_isFed (KL_isFed l g X9 z8_a3 (fun r z1 z2 => absurd z2 (by show ¬ r < 0; omega))) dL_law_65 rfl rfl (Nat.le_of_ble_eq_true rfl) (Nat.le_of_ble_eq_true rfl) (Nat.le_of_ble_eq_true rfl) (Nat.le_of_ble_eq_true rfl) (Nat.le_of_ble_eq_true rfl) (fun v_ h10 hp_ => ?_) (fun _ _ z => z.elim)
                obtain ⟨rfl, X10⟩ := hp_
                obtain ⟨fs10, o10⟩ := X10.obj
                refine v_if_eq F (pc := 68) (a := 1) 75 dL_law_68 (by decide) (by omega) (fun c_7 => ?_) (fun c_7 => ?_)
                · exact absurd c_7 (by decide)
                · refine v_iconst F (pc := 71) dL_law_71 ?_
                  refine v_goto F (pc := 72) 76 dL_law_72 (by decide) ?_
                  refine v_istore F (pc := 76) (lo' := [some (.ref b), some (.ref x), some (.ref a2), some (.ref a3), some (.ref a4), some (.ref a5), some (.int (iI (0))), some (.int (iI (1))), none, none, none, none, none, none, none, none, none, none, none, none, none, none, none, none]) dL_law_76 (Nat.le_of_ble_eq_true rfl) rfl ?_
                  refine v_aload_n F (pc := 78) dL_law_78 rfl ?_
                  refine v_slen F (pc := 79) hXs hbl hbA dL_law_79 ?_
                  refine v_bipush F (pc := 80) dL_law_80 (by decide) ?_
                  refine v_icmp_ge F (pc := 82) (a := (L : Int)) (b := 20) 90 dL_law_82 (by decide) (by omega) (by omega) (fun c_8 => ?_) (fun c_8 => ?_)
                  · refine v_aload_n F (pc := 90) dL_law_90 rfl ?_
                    refine v_slen F (pc := 91) hXs hbl hbA dL_law_91 ?_
                    refine v_bipush F (pc := 92) dL_law_92 (by decide) ?_
                    refine v_icmp_ge F (pc := 94) (a := (L : Int)) (b := 60) 104 dL_law_94 (by decide) (by omega) (by omega) (fun c_9 => ?_) (fun c_9 => ?_)
                    · refine v_sipush F (pc := 104) dL_law_104 (by decide) ?_
                      refine v_istore F (pc := 107) (lo' := [some (.ref b), some (.ref x), some (.ref a2), some (.ref a3), some (.ref a4), some (.ref a5), some (.int (iI (0))), some (.int (iI (1))), some (.int (iI (180))), none, none, none, none, none, none, none, none, none, none, none, none, none, none, none]) dL_law_107 (Nat.le_of_ble_eq_true rfl) rfl ?_
                      refine v_iconst F (pc := 109) dL_law_109 ?_
                      refine v_istore F (pc := 110) (lo' := [some (.ref b), some (.ref x), some (.ref a2), some (.ref a3), some (.ref a4), some (.ref a5), some (.int (iI (0))), some (.int (iI (1))), some (.int (iI (180))), some (.int (iI (0))), none, none, none, none, none, none, none, none, none, none, none, none, none, none]) dL_law_110 (Nat.le_of_ble_eq_true rfl) rfl ?_
                      have hAR : AR g k8 a2 a3 a4 a5 σ0 := by
                        refine ⟨⟨d23, d24, d25, d34, d35, d45⟩, _, _, _, _, z8_a2, z8_a3, z8_a4, z8_a5, (fun r z1 z2 => absurd z2 (by show ¬ r < 0; omega)), fun row z1 z2 => ⟨?_, (σ6 z1 z2).1⟩⟩
                        rw [(σ6 z1 z2).2]
                        rcases (show row = 0 ∨ row = 1 ∨ row = 2 ∨ row = 3 by omega) with rfl | rfl | rfl | rfl <;> rfl
                      exact V.fg (law_loop F (fun q h => h) hXs hbl hbA hL (tn := 180) (by omega) 181 0 h10 σ0 k8 2477 15158 X10 hAR (by decide) (by omega) (by decide) (by decide) (by decide) (by decide) (by omega)) ⟨rfl, ⟨rfl, ⟨rfl, ⟨rfl, ⟨rfl, ⟨rfl, ⟨rfl, ⟨rfl, ⟨rfl, ⟨rfl, trivial⟩⟩⟩⟩⟩⟩⟩⟩⟩⟩
                    · refine v_iconst F (pc := 97) dL_law_97 ?_
                      refine v_aload_n F (pc := 98) dL_law_98 rfl ?_
                      refine v_slen F (pc := 99) hXs hbl hbA dL_law_99 ?_
                      refine v_imul F (pc := 100) (a := 3) (b := (L : Int)) dL_law_100 ?_
                      refine v_goto F (pc := 101) 107 dL_law_101 (by decide) ?_
                      refine v_istore F (pc := 107) (lo' := [some (.ref b), some (.ref x), some (.ref a2), some (.ref a3), some (.ref a4), some (.ref a5), some (.int (iI (0))), some (.int (iI (1))), some (.int (iI (3 * (L : Int)))), none, none, none, none, none, none, none, none, none, none, none, none, none, none, none]) dL_law_107 (Nat.le_of_ble_eq_true rfl) rfl ?_
                      refine v_iconst F (pc := 109) dL_law_109 ?_
                      refine v_istore F (pc := 110) (lo' := [some (.ref b), some (.ref x), some (.ref a2), some (.ref a3), some (.ref a4), some (.ref a5), some (.int (iI (0))), some (.int (iI (1))), some (.int (iI (3 * (L : Int)))), some (.int (iI (0))), none, none, none, none, none, none, none, none, none, none, none, none, none, none]) dL_law_110 (Nat.le_of_ble_eq_true rfl) rfl ?_
                      have hAR : AR g k8 a2 a3 a4 a5 σ0 := by
                        refine ⟨⟨d23, d24, d25, d34, d35, d45⟩, _, _, _, _, z8_a2, z8_a3, z8_a4, z8_a5, (fun r z1 z2 => absurd z2 (by show ¬ r < 0; omega)), fun row z1 z2 => ⟨?_, (σ6 z1 z2).1⟩⟩
                        rw [(σ6 z1 z2).2]
                        rcases (show row = 0 ∨ row = 1 ∨ row = 2 ∨ row = 3 by omega) with rfl | rfl | rfl | rfl <;> rfl
                      exact V.fg (law_loop F (fun q h => h) hXs hbl hbA hL (tn := 3 * (L : Int)) (by omega) 181 0 h10 σ0 k8 2477 15158 X10 hAR (by decide) (by omega) (by decide) (by decide) (by decide) (by decide) (by omega)) ⟨rfl, ⟨rfl, ⟨rfl, ⟨rfl, ⟨rfl, ⟨rfl, ⟨rfl, ⟨rfl, ⟨rfl, ⟨rfl, trivial⟩⟩⟩⟩⟩⟩⟩⟩⟩⟩
                  · refine v_bipush F (pc := 85) dL_law_85 (by decide) ?_
                    refine v_goto F (pc := 87) 107 dL_law_87 (by decide) ?_
                    refine v_istore F (pc := 107) (lo' := [some (.ref b), some (.ref x), some (.ref a2), some (.ref a3), some (.ref a4), some (.ref a5), some (.int (iI (0))), some (.int (iI (1))), some (.int (iI (60))), none, none, none, none, none, none, none, none, none, none, none, none, none, none, none]) dL_law_107 (Nat.le_of_ble_eq_true rfl) rfl ?_
                    refine v_iconst F (pc := 109) dL_law_109 ?_
                    refine v_istore F (pc := 110) (lo' := [some (.ref b), some (.ref x), some (.ref a2), some (.ref a3), some (.ref a4), some (.ref a5), some (.int (iI (0))), some (.int (iI (1))), some (.int (iI (60))), some (.int (iI (0))), none, none, none, none, none, none, none, none, none, none, none, none, none, none]) dL_law_110 (Nat.le_of_ble_eq_true rfl) rfl ?_
                    have hAR : AR g k8 a2 a3 a4 a5 σ0 := by
                      refine ⟨⟨d23, d24, d25, d34, d35, d45⟩, _, _, _, _, z8_a2, z8_a3, z8_a4, z8_a5, (fun r z1 z2 => absurd z2 (by show ¬ r < 0; omega)), fun row z1 z2 => ⟨?_, (σ6 z1 z2).1⟩⟩
                      rw [(σ6 z1 z2).2]
                      rcases (show row = 0 ∨ row = 1 ∨ row = 2 ∨ row = 3 by omega) with rfl | rfl | rfl | rfl <;> rfl
                    exact V.fg (law_loop F (fun q h => h) hXs hbl hbA hL (tn := 60) (by omega) 181 0 h10 σ0 k8 2477 15158 X10 hAR (by decide) (by omega) (by decide) (by decide) (by decide) (by decide) (by omega)) ⟨rfl, ⟨rfl, ⟨rfl, ⟨rfl, ⟨rfl, ⟨rfl, ⟨rfl, ⟨rfl, ⟨rfl, ⟨rfl, trivial⟩⟩⟩⟩⟩⟩⟩⟩⟩⟩
            · exact absurd c_5 (by decide)
  rw [lg_entry_eq]
  exact main s.heap [] _ (fun a ee he => by cases he) va_S.rf (v_lo_entry (av := [.ref b]) (n := 24) (Nat.le_of_ble_eq_true rfl) (by simp [Value.category]))
