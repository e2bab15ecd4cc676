/-! ===== the law: new objects, the walk from its entry ===== -/
theorem mb_0 : MB σ0 := by
  intro f z h0 h1
  have v : σ0 f z = 0 ∨ ((f = 6 ∨ f = 7) ∧ σ0 f z = 10000) ∨ (f = 8 ∧ σ0 f z = 20000) := by
    unfold σ0
    by_cases c1 : f = 6 ∨ f = 7
    · rw [if_pos c1]
      unfold iup
      (repeat' split) <;> first | exact Or.inr (Or.inl ⟨c1, rfl⟩) | exact Or.inl rfl
    · rw [if_neg c1]
      by_cases c2 : f = 8
      · rw [if_pos c2]
        unfold iup
        (repeat' split) <;> first | exact Or.inr (Or.inr ⟨c2, rfl⟩) | exact Or.inl rfl
      · rw [if_neg c2]; exact Or.inl rfl
  rcases v with v | ⟨c, v⟩ | ⟨c, v⟩
  · rw [v]
    unfold mlo mhi
    (repeat' split) <;> omega
  · rw [v]
    rcases c with c | c <;> subst c <;> decide
  · rw [v]
    subst c
    decide
theorem σ6 {z : Int} (a : 0 ≤ z) (b : z < 4) : σ0 6 z = 10000 ∧ σ0 7 z = 10000 := by
  rcases (show z = 0 ∨ z = 1 ∨ z = 2 ∨ z = 3 by omega) with rfl | rfl | rfl | rfl <;> exact ⟨rfl, rfl⟩
theorem σ8 {z : Int} (a : 0 ≤ z) (b : z < 2) : σ0 8 z = 20000 := by
  rcases (show z = 0 ∨ z = 1 by omega) with rfl | rfl <;> rfl
theorem τ20 {z : Int} (a : 0 ≤ z) (b : z < 4) : τ0 20 z = 10000 ∧ τ0 21 z = 10000 := ⟨cFil_rng (F := fun _ => 0) a b, cFil_rng (F := fun _ => 0) a b⟩
theorem τ22 {z : Int} (a : 0 ≤ z) (b : z < 2) : τ0 22 z = 20000 := cFil_rng (F := fun _ => 0) a b
theorem SX_0 (g : gT) {P : Nat → Nat} (hk : cok P (fun _ => 0) (fun _ => 0)) : SX g (P 0) (cheap g P (fun _ => 0) (fun _ _ => none) (fun _ => 0) 5 12 τ0) σ0 := by
  have n17 : σ0 17 0 = 0 := rfl
  have n5 : σ0 5 0 = 0 := rfl
  have we : ∀ r, m_weighs σ0 r = 0 := fun r => rfl
  have wo : ∀ r f, m_worst σ0 r f = 0 := fun r f => rfl
  have hh : ∀ r, m_hts σ0 r = 0 := fun r => rfl
  have rw_ : ∀ r, m_rowWeighs σ0 r = 0 := fun r => rfl
  have rh : ∀ r, m_rowHeats σ0 r = 0 := fun r => rfl
  have ins : ∀ r s, m_inSlot σ0 r s = -1 := fun r s => rfl
  refine ⟨P, _, _, _, 5, 12, τ0, rfl, rfl, hk, Or.inl ⟨rfl, rfl⟩, ⟨fun q h => absurd h (show ¬ (0 : Nat) = 1 by decide), fun q h => absurd h (show ¬ (0 : Nat) = 2 by decide), ⟨by decide, by decide, by decide, by decide, fun k a b => ?_⟩, ⟨by decide, by decide, by decide, by decide, fun k a b => ?_⟩, ⟨by decide, by decide, by decide, by decide, fun k a b => ?_⟩, fun z a b => ?_, fun z a b => ?_, fun z a b => ?_, fun z a b => ?_, ?_⟩, ⟨mb_0, fun k a b => ?_, fun k a b => ?_, fun j k a b => ?_, ⟨fun j k a b c => ?_, fun k a b => ?_⟩, ⟨fun r a b => ?_, fun row a b => ?_, ?_, ?_⟩⟩, ⟨rfl, fun k a b => ?_, fun z a b => ?_, fun z a b => ?_⟩, ⟨rfl, fun k a b => ?_, rfl, fun z a b => rfl⟩, fun k a b => ?_, ⟨fun k a b => ?_, fun k s a b c d => ?_⟩⟩
  · exact absurd b (by show ¬ k < 0; omega)
  · exact absurd b (by show ¬ k < 0; omega)
  · exact absurd b (by show ¬ k < 0; omega)
  · rw [(τ20 a b).1]; decide
  · rw [(τ20 a b).2]; decide
  · rw [τ22 a b]; decide
  · show (0 : Int) ≤ 0 ∧ (0 : Int) ≤ 1; decide
  · show (0 : Int) ≤ 0 ∧ (0 : Int) ≤ 1000000; decide
  · rw [n17] at b; omega
  · rw [n17] at b; omega
  · rw [n17] at b; omega
  · rw [n17] at c; omega
  · rw [n17] at b; omega
  · rw [n5] at b; omega
  · rw [rw_, rh, (σ6 a b).1, (σ6 a b).2]; decide
  · rw [wo, σ8 (by decide) (by decide)]; decide
  · rw [wo, σ8 (by decide) (by decide)]; decide
  · rw [n5] at b; omega
  · rw [(τ20 a b).1, (τ20 a b).2, (σ6 a b).1, (σ6 a b).2]; exact ⟨rfl, rfl⟩
  · rw [τ22 a b, σ8 a b]
  · rw [n17] at b; omega
  · rw [n17] at b; omega
  · rw [we, hh, wo, wo]; exact ⟨rfl, rfl, rfl, rfl⟩
  · rw [ins, if_pos rfl]; exact cFil_rng (F := fun _ => 0) (by omega) (by omega)
/-- a cell more, as a heap beside -/
theorem f_up_or {h : fH} {a : Nat} {e : va_E} : f_up h a e = f_or (f_up (fun _ => none) a e) h := by
  funext q
  by_cases z : q = a
  · subst z; rw [f_up_s, f_or_l (f_up_s _ _ _)]
  · rw [f_up_n z, f_or_r (f_up_n z)]
set_option maxRecDepth 100000 in
theorem whole_start {p : Program} {e : Env} {s : State} {m : MethodId} {below : List Frame} {meth : Method} {c : Code} (l : Launch) (hflags : l.flags = flags0) {b L : Nat} {xs : Nat → Int32} (hL : L ≤ 2560) (C0 : lw_At p s m meth c b L xs) : W p l e room_1 s m #[Value.ref b] below meth c s.heap [] 0 0 (lw_Z below #[Value.ref b] s) (entryFrame m ([Value.ref b] : List Value).toArray 7) := by
  obtain ⟨hx, hb, hr, hml, hown, hts, hX, hbl, hlocks, hgv⟩ := id C0
  obtain ⟨g, hKK, hST, hN⟩ := start_g hts hgv
  have hl9 : l.stackTraces = false := by unfold Launch.stackTraces; rw [hflags]; decide
  have F : Fx p l s m #[Value.ref b] meth c cL_law 7 ret RL g (fun q => s.heap.size ≤ q) := ⟨hx, hb, hml, hr, hown, hlocks, hKK, hST, fun q h => h, hl9, fun w hw => hts w (lwT_tbl hw)⟩
  have hbA : ¬ (fun q : Nat => s.heap.size ≤ q) b := Nat.not_le.mpr hbl
  have main : V p l e room_1 s m #[Value.ref b] below meth c (lw_Z below #[Value.ref b] s) 7 g (fun q => s.heap.size ≤ q) (fun _ => none) 0 0 0 [some (.ref b), none, none, none, none, none, none] [] := by
    refine v_new F (pc := 0) fn_L_8 dL_law_0 (Nat.le_of_ble_eq_true rfl) (Nat.le_of_ble_eq_true rfl) (fun x _ => ?_)
    refine v_dup F (pc := 3) dL_law_3 rfl ?_
    refine v_callI F (pc := 4) (As := []) (rest := [.ref x]) ci_L_83 ct_X4_init rfl (k_X4_init l g (f_up_s _ _ _)) dL_law_4 rfl rfl (Nat.le_of_ble_eq_true rfl) (Nat.le_of_ble_eq_true rfl) (Nat.le_of_ble_eq_true rfl) (Nat.le_of_ble_eq_true rfl) (Nat.le_of_ble_eq_true rfl) (fun v h1 hp => ?_)
    obtain ⟨rfl, P, rfl, hk, hsub⟩ := hp
    have hX0 := SX_0 g hk
    generalize cheap g P (fun _ => 0) (fun _ _ => none) (fun _ => 0) 5 12 τ0 = hC at hX0 hsub
    generalize P 0 = x at hX0 ⊢
    refine V.sub (h' := hC) ?_ hsub
    refine v_astore_n F (pc := 7) (lo' := [some (.ref b), some (.ref x), none, none, none, none, none]) dL_law_7 (Nat.le_of_ble_eq_true rfl) rfl ?_
    refine v_new F (pc := 8) fn_L_84 dL_law_8 (Nat.le_of_ble_eq_true rfl) (Nat.le_of_ble_eq_true rfl) (fun y hy => ?_)
    refine v_dup F (pc := 11) dL_law_11 rfl ?_
    rw [f_up_or]
    have hdy : ∀ (ee : va_E) (a : Nat), hC a ≠ none → f_up (fun _ => none) y ee a = none := fun ee a ha => f_up_n (fun z => ha (by rw [z]; exact hy))
    refine v_callI F (pc := 12) (As := []) (rest := [.ref y]) ci_L_86 ct_X5_init rfl (CM.mono (CM.frame (k := hC) (k_X5_init l g (f_up_s _ _ _)) (hdy _)) (post' := fun v h2 => ∃ h', (v = none ∧ ∃ P : Nat → Nat, P 0 = y ∧ mok P ∧ ∀ x e, mheap g P σ0 x = some e → h' x = some e) ∧ h2 = f_or h' hC ∧ ∀ a, hC a ≠ none → h' a = none) (px' := noX) (fun v h' hp => ⟨h', hp, fun a e he => he⟩) (fun E h' hp => by obtain ⟨_, z, _⟩ := hp; exact z.elim)) dL_law_12 rfl rfl (Nat.le_of_ble_eq_true rfl) (Nat.le_of_ble_eq_true rfl) (Nat.le_of_ble_eq_true rfl) (Nat.le_of_ble_eq_true rfl) (Nat.le_of_ble_eq_true rfl) (fun v h2 hp => ?_)
    obtain ⟨hm, ⟨rfl, P2, rfl, hP2, hsub2⟩, rfl, hdis⟩ := hp
    have hdM : ∀ a, hC a ≠ none → mheap g P2 σ0 a = none := fun a ha => by
      cases hq : mheap g P2 σ0 a with
      | none => rfl
      | some ee =>
        have := hsub2 a ee hq
        rw [hdis a ha] at this
        cases this
    refine V.sub (h' := f_or (mheap g P2 σ0) hC) ?_ (fun a ee he => ?_)
    · refine v_astore_n F (pc := 15) (lo' := [some (.ref b), some (.ref x), some (.ref (P2 0)), none, none, none, none]) dL_law_15 (Nat.le_of_ble_eq_true rfl) rfl ?_
      refine v_iconst F (pc := 16) dL_law_16 ?_
      refine v_newl F (pc := 17) dL_law_17 (Nat.le_of_ble_eq_true rfl) (Nat.le_of_ble_eq_true rfl) (fun o ho => ?_)
      refine v_astore_n F (pc := 19) (lo' := [some (.ref b), some (.ref x), some (.ref (P2 0)), some (.ref o), none, none, none]) dL_law_19 (Nat.le_of_ble_eq_true rfl) rfl ?_
      refine v_iconst F (pc := 20) dL_law_20 ?_
      refine v_istore F (pc := 21) (lo' := [some (.ref b), some (.ref x), some (.ref (P2 0)), some (.ref o), some (.int (iI 0)), none, none]) dL_law_21 (Nat.le_of_ble_eq_true rfl) rfl ?_
      have hoM : mheap g P2 σ0 o = none := by
        cases hq : mheap g P2 σ0 o with
        | none => rfl
        | some ee => rw [f_or_l hq] at ho; cases ho
      have hoC : hC o = none := by rw [f_or_r hoM] at ho; exact ho
      have ehp : f_up (f_or (mheap g P2 σ0) hC) o (.inl (g.2.1 4, 1, .inr (.inl (fun _ => 0)))) = f_or (f_or hC (fO g o 0)) (mheap g P2 σ0) := by
        funext q
        by_cases z : q = o
        · subst z
          rw [f_up_s, f_or_l ((f_or_r hoC).trans fO_s)]
        · rw [f_up_n z]
          have zO : fO g o 0 q = none := if_neg z
          cases hq : mheap g P2 σ0 q with
          | some ee =>
            have hCq : hC q = none := by
              cases hq2 : hC q with
              | none => rfl
              | some e2 => rw [hdM q (by rw [hq2]; exact fun z => by cases z)] at hq; cases hq
            rw [f_or_l hq, f_or_r ((f_or_r hCq).trans zO), hq]
          | none =>
            rw [f_or_r hq]
            cases hq2 : hC q with
            | none => rw [f_or_r ((f_or_r hq2).trans zO), hq]
            | some e2 => rw [f_or_l (f_or_l hq2)]
      rw [ehp]
      have k := law_loop (e := e) (below := below) F (fun q h => h) hN hX hbl hbA hL hP2 100 2000 (by decide) (by decide) (L + 1) 0 hC 0 σ0 hX0 hoC (fun a ha => ?_) (by show (0 : Int) ≤ _; omega) (by omega) (by omega)
      · exact v_wid (Nat.le_of_ble_eq_true rfl) (Nat.le_of_ble_eq_true rfl) k
      · have hCa : hC a = none := by
          cases hq2 : hC a with
          | none => rfl
          | some e2 => exact absurd (hdM a (by rw [hq2]; exact fun z => by cases z)) ha
        rw [f_or_r hCa]
        by_cases z : a = o
        · rw [z, hoM] at ha; exact absurd rfl ha
        · exact if_neg z
    · cases hq : mheap g P2 σ0 a with
      | some e3 =>
        rw [f_or_l hq] at he
        cases he
        exact f_or_l (hsub2 a _ hq)
      | none =>
        rw [f_or_r hq] at he
        rw [f_or_r (hdis a (by rw [he]; exact fun z => by cases z))]
        exact he
  rw [lg_entry_eq]
  exact main s.heap [] _ (fun a ee he => by cases he) va_S.rf (v_lo_entry (av := [.ref b]) (n := 7) (Nat.le_of_ble_eq_true rfl) (by simp [Value.category]))
