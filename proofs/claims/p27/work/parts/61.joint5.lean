/-! ===== class and reference together: a machine placed ===== -/
theorem ch_lks {r : Nat → Int → Option Nat} {τ σ : sT} {w m : Nat} (hB : MB σ) (hr : RV σ) (hS : SRel r τ σ) (hL : LR τ w σ) {σ1 : sT} (hB1 : MB σ1) (hr1 : RV σ1) (hS1 : SRel r τ σ1) (hL1 : LR τ w σ1) (e5 : σ1 5 0 = σ 5 0) {k : Int} (h0 : 0 ≤ k) (h1 : k < σ 5 0) (hm : Mb τ m) : m_slotIn σ1 k (τ 31 m) (τ 32 m) (τ 33 m) (τ 34 m) = m_slotIn σ k (τ 31 m) (τ 32 m) (τ 33 m) (τ 34 m) := by
  have hnr := mb_nr hB
  have a := lk_fit hB hr hS hL h0 h1 hm
  have b := lk_fit hB1 hr1 hS1 hL1 h0 (by omega) hm
  have c := m_slotIn_rng hB (r := k) ⟨h0, by omega⟩ (τ 31 m) (τ 32 m) (τ 33 m) (τ 34 m)
  have d := m_slotIn_rng hB1 (r := k) ⟨h0, by omega⟩ (τ 31 m) (τ 32 m) (τ 33 m) (τ 34 m)
  rw [a] at b
  by_cases x : m_slotIn σ k (τ 31 m) (τ 32 m) (τ 33 m) (τ 34 m) = -1
  · rw [if_pos x] at b
    by_cases y : m_slotIn σ1 k (τ 31 m) (τ 32 m) (τ 33 m) (τ 34 m) = -1
    · omega
    · rw [if_neg y] at b; omega
  · rw [if_neg x] at b
    by_cases y : m_slotIn σ1 k (τ 31 m) (τ 32 m) (τ 33 m) (τ 34 m) = -1
    · rw [if_pos y] at b; omega
    · rw [if_neg y] at b; omega
theorem pl_ag {σ : sT} (n p w c : Int) : Ag σ (pl_S σ n p w c) := by
  refine ⟨fun f z a b => ?_, rfl, rfl, fun f j a b x y => ?_⟩
  · unfold pl_S
    rw [su_n (by omega), su_n (by omega), su_n (by omega), su_n (by omega), su_n (by omega), su_n (by omega)]
  · unfold pl_S
    rw [su_ne (by omega), su_ne (by omega), su_ne (by omega), su_ne (by omega), su_ne (by omega), su_n (by omega)]
theorem pl_mb {σ : sT} (hB : MB σ) {n p w c : Int} (hkd : cKD n p w c) (hg : σ 18 0 ≤ 1000000) (hg0 : 0 ≤ σ 18 0) : MB (pl_S σ n p w c) :=
  mb_su (mb_su (mb_su (mb_su (mb_su (mb_su hB (pl_c1_rng σ n p w c)) (show (0 : Int) ≤ n ∧ n ≤ (6 : Int) by omega)) (show (0 : Int) ≤ p ∧ p ≤ (2000 : Int) by omega)) (show (0 : Int) ≤ w ∧ w ≤ (1000 : Int) by omega)) (show (0 : Int) ≤ c ∧ c ≤ (2 : Int) by omega)) (show (0 : Int) ≤ σ 18 0 ∧ σ 18 0 ≤ (1000000 : Int) by omega)
theorem pl_11 (σ : sT) (n p w c : Int) : pl_S σ n p w c 11 (σ 17 0) = n ∧ pl_S σ n p w c 12 (σ 17 0) = p ∧ pl_S σ n p w c 13 (σ 17 0) = w ∧ pl_S σ n p w c 14 (σ 17 0) = c ∧ pl_S σ n p w c 10 (σ 17 0) = σ 18 0 :=
  ⟨iup_s _ _ _, iup_s _ _ _, iup_s _ _ _, iup_s _ _ _, iup_s _ _ _⟩
theorem pl_r_eq {σ : sT} (hB : MB σ) (n p w c : Int) : pl_r σ n p w c = m_prA σ n p w c := by
  have hn := mb_nr hB
  obtain ⟨e1, e2, e3, e4, e5⟩ := pl_11 σ n p w c
  unfold pl_r m_pr m_prA
  rw [e1, e2, e3, e4, show pl_S σ n p w c 5 0 = σ 5 0 from (pl_ag n p w c).1 5 0 (by decide) (by decide)]
  exact ff_cong hn.1 (fun j a b => by rw [(pl_ag n p w c).si hB])
theorem pl_t_eq {σ : sT} (hB : MB σ) (n p w c : Int) : pl_t σ n p w c = m_slotIn σ (m_prA σ n p w c) n p w c := by
  unfold pl_t
  rw [pl_r_eq hB, (pl_ag n p w c).si hB]
theorem rx_place {K : Nat → Nat} {r : Nat → Int → Option Nat} {cp : Nat → Nat} {b b' : Nat} {τ σ : sT} (hR : RX K r cp b b' τ σ) {q cap : Nat} {r1 : Int → Option Nat} {n p w c R S : Int} (hq : K q ≠ 1 ∧ K q ≠ 2) (hkd : cKD n p w c) (h60 : σ 17 0 < 60) (hg : σ 18 0 < 1000000) (hc1 : τ 53 0 + 1 ≤ cap) (hc2 : cap ≤ 150) (hr1 : r1 (τ 53 0) = some q) (hr2 : ∀ j, 0 ≤ j → j < τ 53 0 → r1 j = r 0 j) (hRr : 0 ≤ R ∧ R < σ 5 0) (hSS : m_slotIn σ R n p w c = S) (hS1 : S ≠ -1) :
    RX (kup K q 1) (rup r 0 r1) (kup cp 0 cap) b b' (cPl (smo τ q (τ 0 0) n p w c) b q (R * 20 + S)) (su (su (su (su (su (pl_S σ n p w c) 15 (σ 17 0) R) 16 (σ 17 0) S) 0 0 0) 17 0 (σ 17 0 + 1)) 18 0 (σ 18 0 + 1)) := by
  obtain ⟨hb, hb2, hbb, hV, hW, hPC, hWn, hB, hI, hA, hN, hNI, hML, hS, hP, hC, hL, hRV⟩ := hR.facts
  have hm := mb_nm hB
  have hnr := mb_nr hB
  have hg0 : (0 : Int) ≤ σ 18 0 := (hB 18 0 (by decide) (by decide)).1
  have hBp := pl_mb hB hkd (by omega) hg0
  obtain ⟨p11, p12, p13, p14, p10⟩ := pl_11 σ n p w c
  have pag := pl_ag (σ := σ) n p w c
  -- the grown state: one machine more, in no rack
  obtain ⟨σ1, hσ1⟩ : ∃ σ1, σ1 = su (su (su (pl_S σ n p w c) 15 (σ 17 0) (-1)) 17 0 (σ 17 0 + 1)) 18 0 (σ 18 0 + 1) := ⟨_, rfl⟩
  have g17 : σ1 17 0 = σ 17 0 + 1 := by rw [hσ1]; rfl
  have g18 : σ1 18 0 = σ 18 0 + 1 := by rw [hσ1]; rfl
  have glo : ∀ (f : Nat) (z : Int), 1 ≤ f → f ≤ 9 → σ1 f z = σ f z := fun f z x y => by rw [hσ1, su_n (by omega), su_n (by omega), su_n (by omega)]; exact pag.1 f z x y
  have gf : ∀ (f : Nat) (j : Int), 10 ≤ f → f ≤ 16 → 0 ≤ j → j < σ 17 0 → σ1 f j = σ f j := fun f j x y u v => by rw [hσ1, su_n (by omega), su_n (by omega), su_ne (by omega)]; exact pag.2.2.2 f j x y u v
  have g15 : σ1 15 (σ 17 0) = -1 := by rw [hσ1]; exact iup_s _ _ _
  have g11 : σ1 11 (σ 17 0) = n := by rw [hσ1]; exact p11
  have g12 : σ1 12 (σ 17 0) = p := by rw [hσ1]; exact p12
  have g13 : σ1 13 (σ 17 0) = w := by rw [hσ1]; exact p13
  have g14 : σ1 14 (σ 17 0) = c := by rw [hσ1]; exact p14
  have g10 : σ1 10 (σ 17 0) = σ 18 0 := by rw [hσ1]; exact p10
  have gB : MB σ1 := by rw [hσ1]; exact mb_su (mb_su (mb_su hBp (show (-1 : Int) ≤ -1 ∧ (-1 : Int) ≤ (7 : Int) by decide)) (show (0 : Int) ≤ σ 17 0 + 1 ∧ σ 17 0 + 1 ≤ (60 : Int) by omega)) (show (0 : Int) ≤ σ 18 0 + 1 ∧ σ 18 0 + 1 ≤ (1000000 : Int) by omega)
  have gI : IW σ1 := by
    intro k x y
    rw [g17] at y
    by_cases z : k = σ 17 0
    · rw [z]; exact Or.inl g15
    · rw [gf 15 k (by decide) (by decide) x (by omega), gf 16 k (by decide) (by decide) x (by omega), gf 11 k (by decide) (by decide) x (by omega), glo 5 _ (by decide) (by decide), glo 2 _ (by decide) (by decide)]
      exact hI k x (by omega)
  have gN : NO σ1 := by
    intro i j x y u v ne hne he
    rw [g17] at y v
    have zi : i ≠ σ 17 0 := fun z => hne (by rw [z]; exact g15)
    have zj : j ≠ σ 17 0 := fun z => hne (by rw [he, z]; exact g15)
    rw [gf 15 i (by decide) (by decide) x (by omega)] at hne he
    rw [gf 15 j (by decide) (by decide) u (by omega)] at he
    rw [gf 16 i (by decide) (by decide) x (by omega), gf 11 i (by decide) (by decide) x (by omega), gf 16 j (by decide) (by decide) u (by omega), gf 11 j (by decide) (by decide) u (by omega)]
    exact hN i j x (by omega) u (by omega) ne hne he
  have gNI : NI σ1 := by
    refine ⟨fun i j x y z => ?_, fun k x y => ?_⟩
    · rw [g17] at z
      rw [gf 10 i (by decide) (by decide) x (by omega)]
      by_cases u : j = σ 17 0
      · rw [u, g10]; exact hNI.2 i x (by omega)
      · rw [gf 10 j (by decide) (by decide) (by omega) (by omega)]; exact hNI.1 i j x y (by omega)
    · rw [g17] at y
      rw [g18]
      by_cases u : k = σ 17 0
      · rw [u, g10]; omega
      · rw [gf 10 k (by decide) (by decide) x (by omega)]; have := hNI.2 k x (by omega); omega
  have gL : LR τ b σ1 := lr_grow hB hL g17 gf g15
  have gML : ML σ1 := ml_le hB gB hRV gI.rv (fun f z x y => glo f z x (by omega)) (fun k x y => by have := lr_same hL gL x y; omega) hML
  -- the machine's object
  have hVn := hV.newm hq hkd
  obtain ⟨mb, s31, s32, s33, s34⟩ := smoMb hV (q := q) hkd
  have s30 : smo τ q (τ 0 0) n p w c 30 q = τ 0 0 := iup_s _ _ _
  have gSl : m_slotIn σ1 R n p w c = S := by
    have h9 := ch_lks (m := q) hB hRV (smo_S (q := q) (n := τ 0 0) (s := n) (p := p) (w := w) (c := c) hS) (smo_L hb hL) (σ1 := σ1) gB gI.rv ?_ (smo_L hb gL) (glo 5 0 (by decide) (by decide)) hRr.1 hRr.2 mb
    · rw [s31, s32, s33, s34] at h9
      rw [h9]; exact hSS
    · refine smo_S ⟨by rw [glo 5 _ (by decide) (by decide)]; exact hS.1, fun k x y => ?_, fun z x y => ?_, fun z x y => ?_⟩
      · rw [glo 5 _ (by decide) (by decide)] at y
        rw [glo 1 _ (by decide) (by decide), glo 2 _ (by decide) (by decide), glo 3 _ (by decide) (by decide), glo 4 _ (by decide) (by decide)]
        exact hS.2.1 k x y
      · rw [glo 6 _ (by decide) (by decide), glo 7 _ (by decide) (by decide)]; exact hS.2.2.1 z x y
      · rw [glo 8 _ (by decide) (by decide)]; exact hS.2.2.2 z x y
  have hR1 : 0 ≤ R ∧ R < σ1 5 0 := by rw [glo 5 _ (by decide) (by decide)]; exact hRr
  have g17' : σ 17 0 < σ1 17 0 := by omega
  have gS2 : m_slotIn σ1 R (σ1 11 (σ 17 0)) (σ1 12 (σ 17 0)) (σ1 13 (σ 17 0)) (σ1 14 (σ 17 0)) = S := by rw [g11, g12, g13, g14]; exact gSl
  obtain ⟨aB, aI, aN, aML⟩ := put_all gB gI gN gML hm.1 g17' g15 (by rw [g11]; omega) hR1 gS2 hS1
  obtain ⟨f1, f2, f3, f4, f5⟩ := slot_facts gB hR1 (by rw [g11]; omega) gS2 hS1
  rw [g11] at f3 f5
  -- the layout behind it
  have aL : LR (cPl (smo τ q (τ 0 0) n p w c) b q (R * 20 + S)) b (m_at σ1 (σ 17 0) R S) := by
    have h1 : LR (su (smo τ q (τ 0 0) n p w c) 35 q (R * 20 + S)) b σ1 := LR_su hb (by omega) (smo_L hb gL)
    have h2 := lr_put (m := q) hb gB h1 hm.1 g17' g15 (R := R) (S := S) (by omega) (by rw [g11]; omega) (by rw [g11]; exact f5) (by rw [g10, g11, g12, g13, g14]; exact ⟨s30.trans hP.2.2.1, s31, s32, s33, s34⟩) (by rw [g11]; omega)
    unfold cPl
    exact LR_su hb (by omega) (LR_su hb (by omega) (LR_su hb (by omega) h2))
  -- fields of the new state
  have F0 : ∀ f, cfix f = true → f ≠ 50 → f ≠ 53 → f ≠ 0 → cPl (smo τ q (τ 0 0) n p w c) b q (R * 20 + S) f = su (smo τ q (τ 0 0) n p w c) 35 q (R * 20 + S) f := fun f hf x y z => by
    unfold cPl
    rw [su_n z, su_n y, su_n x, cPut_fix hb hf]
  have T53 : cPl (smo τ q (τ 0 0) n p w c) b q (R * 20 + S) 53 0 = τ 53 0 + 1 := by
    unfold cPl
    rw [su_n (by decide), su_s, iup_s, cPut_fix hb rfl]; rfl
  have T0 : cPl (smo τ q (τ 0 0) n p w c) b q (R * 20 + S) 0 0 = τ 0 0 + 1 := by
    unfold cPl
    rw [su_s, iup_s, cPut_fix hb rfl]; rfl
  have hVc : CV (kup K q 1) r cp (cPut (su (smo τ q (τ 0 0) n p w c) 35 q (R * 20 + S)) b q (R * 20 + S)) := CV.of (hVn.cell (q := q) (c := R * 20 + S) (Or.inl rfl) (by omega)) (fun f hf => cPut_fix hb hf)
  have kk : ∀ k, 0 ≤ k → k < σ 17 0 → r 0 k = some (ad r 0 k) ∧ K (ad r 0 k) = 1 ∧ ad r 0 k ≠ q := fun k x y => by
    have := hV.2.2.1.2.2.2.2 k x (by rw [hP.1]; exact y)
    exact ⟨this.1, this.2, fun z => hq.1 (by rw [← z]; exact this.2)⟩
  have adk : ∀ k, 0 ≤ k → k < σ 17 0 → ad (rup r 0 r1) 0 k = ad r 0 k := fun k x y => ad_rup (hr2 k x (by rw [hP.1]; exact y))
  have adn : ad (rup r 0 r1) 0 (σ 17 0) = q := ad_rup_q (by rw [← hP.1]; exact hr1)
  have key : RX (kup K q 1) (rup r 0 r1) (kup cp 0 cap) b b' (cPl (smo τ q (τ 0 0) n p w c) b q (R * 20 + S)) (m_at σ1 (σ 17 0) R S) := by
    refine ⟨hR.1, ⟨hVc.1, hVc.2.1, ?_, hVc.2.2.2.1, hVc.2.2.2.2.1, hVc.2.2.2.2.2.1, hVc.2.2.2.2.2.2.1, hVc.2.2.2.2.2.2.2.1, hVc.2.2.2.2.2.2.2.2.1, ?_⟩, ⟨aB, aI, ?_, aN, ?_, aML⟩, ?_, ?_, ?_, aL⟩
    · refine ⟨by rw [T53, hP.1]; omega, by rw [T53, kup_s]; exact hc1, by rw [kup_s]; exact hc2, by rw [T53, hP.1]; omega, fun k x y => ?_⟩
      rw [T53, hP.1] at y
      by_cases z : k = σ 17 0
      · rw [z, adn, rup_s, kup_s]; exact ⟨by rw [← hP.1]; exact hr1, rfl⟩
      · have := kk k x (by omega)
        rw [adk k x (by omega), rup_s, hr2 k x (by rw [hP.1]; omega), kup_n this.2.2]
        exact ⟨this.1, this.2.1⟩
    · rw [T0, hP.2.2.1]; omega
    · intro k x y
      rw [m_at_n (f := 17) (by decide), g17] at y
      rw [m_at15]
      by_cases z : k = σ 17 0
      · rw [z, iup_s]; omega
      · rw [iup_n z, gf 15 k (by decide) (by decide) x (by omega)]; exact hA k x (by omega)
    · refine ⟨fun i j x y z => ?_, fun k x y => ?_⟩
      · rw [m_at_n (f := 17) (by decide)] at z
        rw [m_at_n (f := 10) (by decide)]; exact gNI.1 i j x y z
      · rw [m_at_n (f := 17) (by decide)] at y
        rw [m_at_n (f := 10) (by decide), m_at_n (f := 18) (by decide)]; exact gNI.2 k x y
    · unfold SRel
      rw [F0 55 rfl (by decide) (by decide) (by decide), F0 40 rfl (by decide) (by decide) (by decide), F0 41 rfl (by decide) (by decide) (by decide), F0 42 rfl (by decide) (by decide) (by decide), F0 43 rfl (by decide) (by decide) (by decide), F0 20 rfl (by decide) (by decide) (by decide), F0 21 rfl (by decide) (by decide) (by decide), F0 22 rfl (by decide) (by decide) (by decide)]
      have l : ∀ (f : Nat) (z : Int), 1 ≤ f → f ≤ 9 → m_at σ1 (σ 17 0) R S f z = σ f z := fun f z x y => by rw [m_at_n (by omega)]; exact glo f z x y
      refine ⟨by rw [l 5 _ (by decide) (by decide)]; exact hS.1, fun k x y => ?_, fun z x y => ?_, fun z x y => ?_⟩
      · rw [l 5 _ (by decide) (by decide)] at y
        rw [l 1 _ (by decide) (by decide), l 2 _ (by decide) (by decide), l 3 _ (by decide) (by decide), l 4 _ (by decide) (by decide)]
        exact hS.2.1 k x y
      · rw [l 6 _ (by decide) (by decide), l 7 _ (by decide) (by decide)]; exact hS.2.2.1 z x y
      · rw [l 8 _ (by decide) (by decide)]; exact hS.2.2.2 z x y
    · unfold PRel
      rw [T53, T0, F0 30 rfl (by decide) (by decide) (by decide), F0 31 rfl (by decide) (by decide) (by decide), F0 32 rfl (by decide) (by decide) (by decide), F0 33 rfl (by decide) (by decide) (by decide), F0 34 rfl (by decide) (by decide) (by decide), F0 2 rfl (by decide) (by decide) (by decide), m_at_n (f := 17) (by decide), m_at_n (f := 18) (by decide), m_at_n (f := 10) (by decide), m_at_n (f := 11) (by decide), m_at_n (f := 12) (by decide), m_at_n (f := 13) (by decide), m_at_n (f := 14) (by decide), m_at_n (f := 9) (by decide)]
      refine ⟨by rw [g17, hP.1], fun k x y => ?_, by rw [g18, hP.2.2.1], fun z x y => ?_⟩
      · rw [g17] at y
        by_cases z : k = σ 17 0
        · rw [z, adn, g10, g11, g12, g13, g14]
          exact ⟨s30.trans hP.2.2.1, s31, s32, s33, s34⟩
        · have h1 := kk k x (by omega)
          rw [adk k x (by omega), gf 10 k (by decide) (by decide) x (by omega), gf 11 k (by decide) (by decide) x (by omega), gf 12 k (by decide) (by decide) x (by omega), gf 13 k (by decide) (by decide) x (by omega), gf 14 k (by decide) (by decide) x (by omega)]
          have e : ∀ f, f ≠ 35 → su (smo τ q (τ 0 0) n p w c) 35 q (R * 20 + S) f (ad r 0 k) = τ f (ad r 0 k) := fun f hf => by rw [su_n hf, smo_ne h1.2.2]
          rw [e 30 (by decide), e 31 (by decide), e 32 (by decide), e 33 (by decide), e 34 (by decide)]
          exact hP.2.1 k x (by omega)
      · rw [glo 9 _ (by decide) (by decide)]; exact hP.2.2.2 z x y
    · unfold PCel
      rw [F0 35 rfl (by decide) (by decide) (by decide), m_at_n (f := 17) (by decide), m_at15, m_at16, g17]
      intro k x y
      by_cases z : k = σ 17 0
      · rw [z, adn, iup_s, iup_s]; exact iup_s _ _ _
      · have h1 := kk k x (by omega)
        rw [adk k x (by omega), iup_n z, iup_n z, gf 15 k (by decide) (by decide) x (by omega), gf 16 k (by decide) (by decide) x (by omega), su_ne (by omega), smo_ne h1.2.2]
        exact hC k x (by omega)
  refine Ag.rx (σ := m_at σ1 (σ 17 0) R S) ⟨fun f z x y => ?_, ?_, ?_, fun f j x y u v => ?_⟩ ?_ key
  · rw [m_at_n (by omega), glo f z x y, su_n (by omega), su_n (by omega), su_n (by omega), su_n (by omega), su_n (by omega)]
    exact pag.1 f z x y
  · rw [m_at_n (by decide), g17]; rfl
  · rw [m_at_n (by decide), g18]; rfl
  · rw [m_at_n (f := 17) (by decide), g17] at v
    rw [su_n (by omega), su_n (by omega), su_n (by omega)]
    by_cases z15 : f = 15
    · subst z15
      rw [m_at15, su_n (by decide), su_s]
      by_cases z : j = σ 17 0
      · rw [z, iup_s, iup_s]
      · rw [iup_n z, iup_n z, gf 15 j (by decide) (by decide) u (by omega)]
        exact pag.2.2.2 15 j (by decide) (by decide) u (by omega)
    · by_cases z16 : f = 16
      · subst z16
        rw [m_at16, su_s, su_n (by decide)]
        by_cases z : j = σ 17 0
        · rw [z, iup_s, iup_s]
        · rw [iup_n z, iup_n z, gf 16 j (by decide) (by decide) u (by omega)]
          exact pag.2.2.2 16 j (by decide) (by decide) u (by omega)
      · rw [m_at_n ⟨z15, z16⟩, su_n z16, su_n z15, hσ1, su_n (by omega), su_n (by omega), su_n z15]
  · exact mb_su (mb_su (mb_su (mb_su (mb_su hBp (show (-1 : Int) ≤ R ∧ R ≤ (7 : Int) by omega)) (show (0 : Int) ≤ S ∧ S ≤ (19 : Int) by omega)) (show (0 : Int) ≤ 0 ∧ (0 : Int) ≤ (3 : Int) by decide)) (show (0 : Int) ≤ σ 17 0 + 1 ∧ σ 17 0 + 1 ≤ (60 : Int) by omega)) (show (0 : Int) ≤ σ 18 0 + 1 ∧ σ 18 0 + 1 ≤ (1000000 : Int) by omega)
set_option maxRecDepth 100000 in
theorem J_place (l : Launch) (g : gT) {x : Nat} {h : fH} {σ : sT} (hX : SX g x h σ) (n p w c : Int) (hn_ : -2147483648 ≤ n ∧ n ≤ 2147483647) (hp_ : -2147483648 ≤ p ∧ p ≤ 2147483647) (hw_ : -2147483648 ≤ w ∧ w ≤ 2147483647) (hc_ : -2147483648 ≤ c ∧ c ≤ 2147483647) (hgv : σ 18 0 < 1000000) : CM l g yX4_place cX4_place 7 (some .int) { frames := 12, cells := 6, slots := 181, locals := 198 } [.ref x, .int (iI n), .int (iI p), .int (iI w), .int (iI c)] h (fun v h1 => pl_c σ n p w c = 0 ∧ v = some (.int (iI (pl_a σ n p w c))) ∧ SX g x h1 (pl_s σ n p w c)) (fun E h1 => SX g x h1 (pl_s σ n p w c) ∧ ((pl_c σ n p w c = 1 ∧ E = "java/lang/IllegalArgumentException") ∨ (pl_c σ n p w c = 2 ∧ E = "java/lang/IllegalStateException"))) := by
  obtain ⟨P, K, r, cp, b, b', τ, rfl, rfl, hk, hR⟩ := hX
  obtain ⟨hb, hb2, hbb, hV, hW, hPC, hWn, hB, hI, hA, hN, hNI, hML, hS, hP, hC, hL, hRV⟩ := hR.facts
  have hm := mb_nm hB
  have hn := mb_nr hB
  have SXk : ∀ v : Int, 0 ≤ v ∧ v ≤ 3 → SX g (P 0) (cheap g P K r cp b b' τ) (su σ 0 0 v) := fun v hv => ⟨P, K, r, cp, b, b', τ, rfl, rfl, hk, hR.c0 hv⟩
  have hff : ∀ q, cKD n p w c → cFF r (smo τ q (τ 0 0) n p w c) b q = if m_prA σ n p w c = -1 then -1 else m_prA σ n p w c * 20 + m_slotIn σ (m_prA σ n p w c) n p w c := fun q hkd => by
    obtain ⟨mb, s31, s32, s33, s34⟩ := smoMb hV (q := q) hkd
    have h9 := lk_ff (m := q) hB hRV (smo_S (q := q) (n := τ 0 0) (s := n) (p := p) (w := w) (c := c) hS) (smo_L hb hL) mb
    rw [s31, s32, s33, s34] at h9
    exact h9
  refine CM.mono (k_X4_place l g hk hb hb2 hV hW hPC (n := n) (hn := hn_) (p := p) (hp := hp_) (w := w) (hw := hw_) (c := c) (hc := hc_)) ?_ ?_
  · rintro v h1 ⟨rfl, hkd, h2, q, ed, cap, r1, hq, hf, rfl, hk2, hc1, hc2, hr1, hr2⟩
    have hfr := ch_fresh hk hq
    rw [hff q hkd] at hf ⊢
    rcases m_prA_rng hB n p w c with z | ⟨z1, z2, z3⟩
    · rw [if_pos z] at hf; exact absurd rfl hf
    · rw [if_neg (by omega)]
      have e1 : pl_c1 σ n p w c = 0 := by unfold pl_c1; rw [if_pos (kd_kind.mp hkd), if_neg (by rw [← hP.1]; omega)]
      have er : pl_r σ n p w c = m_prA σ n p w c := pl_r_eq hB n p w c
      have e : pl_c σ n p w c = 0 := by unfold pl_c; rw [if_pos e1, er, if_neg (by omega)]
      refine ⟨_, ⟨e, by rw [show pl_a σ n p w c = _ from if_pos e, hP.2.2.1], ?_⟩, fun a e h9 => h9⟩
      have es : pl_s σ n p w c = su (su (su (su (su (pl_S σ n p w c) 15 (σ 17 0) (m_prA σ n p w c)) 16 (σ 17 0) (m_slotIn σ (m_prA σ n p w c) n p w c)) 0 0 0) 17 0 (σ 17 0 + 1)) 18 0 (σ 18 0 + 1) := by
        unfold pl_s
        rw [if_pos e1, er, if_neg (by omega), pl_t_eq hB]
      rw [es]
      exact ⟨kup P 23 ed, kup K q 1, rup r 0 r1, kup cp 0 cap, b, b', _, rfl, rfl, hk2, rx_place hR hfr.2 hkd (by rw [← hP.1]; exact h2) hgv hc1 hc2 hr1 hr2 ⟨z1, z2⟩ rfl z3⟩
  · rintro E h1 ⟨rfl, hv⟩
    rcases hv with ⟨rfl, h0⟩ | ⟨rfl, hkd, h0⟩
    · have e1 : pl_c1 σ n p w c = 1 := if_neg (fun z => h0 (kd_kind.mpr z))
      have e : pl_c σ n p w c = 1 := by unfold pl_c; rw [if_neg (by omega), e1]
      exact ⟨_, ⟨by rw [show pl_s σ n p w c = su σ 0 0 (pl_c1 σ n p w c) from if_neg (by omega)]; exact SXk _ (pl_c1_rng σ n p w c), Or.inl ⟨e, rfl⟩⟩, fun a e h9 => h9⟩
    · by_cases h60 : σ 17 0 = 60
      · have e1 : pl_c1 σ n p w c = 2 := by unfold pl_c1; rw [if_pos (kd_kind.mp hkd), if_pos h60]
        have e : pl_c σ n p w c = 2 := by unfold pl_c; rw [if_neg (by omega), e1]
        exact ⟨_, ⟨by rw [show pl_s σ n p w c = su σ 0 0 (pl_c1 σ n p w c) from if_neg (by omega)]; exact SXk _ (pl_c1_rng σ n p w c), Or.inr ⟨e, rfl⟩⟩, fun a e h9 => h9⟩
      · have e1 : pl_c1 σ n p w c = 0 := by unfold pl_c1; rw [if_pos (kd_kind.mp hkd), if_neg h60]
        have er : pl_r σ n p w c = -1 := by
          rw [pl_r_eq hB]
          rcases h0 with h0 | ⟨q, k1, k2, h0⟩
          · rw [hP.1] at h0; omega
          · rw [hff q hkd] at h0
            rcases m_prA_rng hB n p w c with z | ⟨z1, z2, z3⟩
            · exact z
            · rw [if_neg (by omega)] at h0
              have := m_slotIn_rng hB (r := m_prA σ n p w c) ⟨z1, by omega⟩ n p w c
              omega
        have e : pl_c σ n p w c = 2 := by unfold pl_c; rw [if_pos e1, if_pos er]
        have es : pl_s σ n p w c = su (pl_S σ n p w c) 0 0 2 := by unfold pl_s; rw [if_pos e1, if_pos er]
        have hg0 : (0 : Int) ≤ σ 18 0 := (hB 18 0 (by decide) (by decide)).1
        refine ⟨_, ⟨?_, Or.inr ⟨e, rfl⟩⟩, fun a e h9 => h9⟩
        rw [es]
        refine ⟨P, K, r, cp, b, b', τ, rfl, rfl, hk, Ag.rx (σ := σ) ⟨fun f z a b => ?_, rfl, rfl, fun f j a b u v => ?_⟩ (mb_su (pl_mb hB hkd (by omega) hg0) (show (0 : Int) ≤ 2 ∧ (2 : Int) ≤ (3 : Int) by decide)) hR⟩
        · rw [su_n (by omega)]; exact (pl_ag n p w c).1 f z a b
        · rw [su_n (by omega)]; exact (pl_ag n p w c).2.2.2 f j a b u v
