/-! ===== class and reference together: racks, limits, feeds, cords ===== -/
theorem LR_τ {τ τ' σ : sT} {w : Nat} (h1 : τ' (w + 1) = τ (w + 1)) (h2 : τ' (w + 2) = τ (w + 2)) (h3 : τ' (w + 3) = τ (w + 3)) (h5 : τ' (w + 5) = τ (w + 5)) (h6 : τ' (w + 6) = τ (w + 6)) (hL : LR τ w σ) : LR τ' w σ := by
  unfold LR
  rw [h1, h2, h3, h5, h6]
  exact hL
theorem LR_su {τ σ : sT} {w f : Nat} {z v : Int} (hw : w = 5 ∨ w = 12) (hf : f < 6 ∨ 18 < f) (hL : LR τ w σ) : LR (su τ f z v) w σ :=
  LR_τ (su_n (by omega)) (su_n (by omega)) (su_n (by omega)) (su_n (by omega)) (su_n (by omega)) hL
theorem ad_rup {r : Nat → Int → Option Nat} {i : Nat} {r1 : Int → Option Nat} {j : Int} (h : r1 j = r i j) : ad (rup r i r1) i j = ad r i j := by
  unfold ad
  rw [rup_s, h]
theorem ad_rup_q {r : Nat → Int → Option Nat} {i q : Nat} {r1 : Int → Option Nat} {j : Int} (h : r1 j = some q) : ad (rup r i r1) i j = q := by
  unfold ad
  rw [rup_s, h]
  rfl
/-- a rack that doesn't stand yet holds nothing -/
theorem no_rack {σ : sT} (hB : MB σ) (hR : RV σ) {x : Int} (hx : σ 5 0 ≤ x) (h0 : 0 ≤ x) : m_weighs σ x = 0 ∧ m_worst σ x 0 = 0 ∧ m_worst σ x 1 = 0 := by
  have hm := mb_nm hB
  have ne : ∀ k, 0 ≤ k → k < σ 17 0 → σ 15 k ≠ x := fun k a b => by rcases hR k a b with q | q <;> omega
  refine ⟨?_, ?_, ?_⟩
  · unfold m_weighs
    rw [sm_cong (g := fun _ => 0) hm.1 (fun k a b => by unfold m_we; rw [if_neg (ne k a b)]), sm_zero hm.1]
  · unfold m_worst
    rw [sm_cong (g := fun _ => 0) hm.1 (fun k a b => by rw [wo_r h0, if_neg (ne k a b)]), sm_zero hm.1]
  · unfold m_worst
    rw [sm_cong (g := fun _ => 0) hm.1 (fun k a b => by rw [wo_r h0, if_neg (ne k a b)]), sm_zero hm.1]
theorem rx_addRack {K : Nat → Nat} {r : Nat → Int → Option Nat} {cp : Nat → Nat} {b b' : Nat} {τ σ : sT} (hR : RX K r cp b b' τ σ) {q cap : Nat} {r1 : Int → Option Nat} {row s x y : Int} (hq : K q ≠ 1 ∧ K q ≠ 2) (hkd : (0 ≤ row ∧ row ≤ 3) ∧ (1 ≤ s ∧ s ≤ 20) ∧ (0 ≤ x ∧ x ≤ 10000) ∧ (0 ≤ y ∧ y ≤ 10000)) (h8 : τ 55 0 < 8) (hc1 : τ 55 0 + 1 ≤ cap) (hc2 : cap ≤ 150) (hr1 : r1 (τ 55 0) = some q) (hr2 : ∀ j, 0 ≤ j → j < τ 55 0 → r1 j = r 2 j) {v : Int} (hv : 0 ≤ v ∧ v ≤ 3) :
    RX (kup K q 2) (rup r 2 r1) (kup cp 2 cap) b b' (cAr τ q row s x y) (su (su (su (su (su (su σ 0 0 v) 1 (σ 5 0) row) 2 (σ 5 0) s) 3 (σ 5 0) x) 4 (σ 5 0) y) 5 0 (σ 5 0 + 1)) := by
  obtain ⟨hb, hb2, hbb, hV, hW, hPC, hWn, hB, hI, hA, hN, hNI, hML, hS, hP, hC, hL, hRV⟩ := hR.facts
  have hn := mb_nr hB
  have hm := mb_nm hB
  have hV5 := hV.newr hq hkd
  rw [hS.1] at h8 hc1 hr1 hr2
  have e55 : cAr τ q row s x y 55 0 = σ 5 0 + 1 := by show τ 55 0 + 1 = _; rw [hS.1]
  have adk : ∀ k, 0 ≤ k → k < σ 5 0 → ad (rup r 2 r1) 2 k = ad r 2 k := fun k a c => ad_rup (hr2 k a c)
  have adn : ad (rup r 2 r1) 2 (σ 5 0) = q := ad_rup_q hr1
  have kk : ∀ k, 0 ≤ k → k < σ 5 0 → r 2 k = some (ad r 2 k) ∧ K (ad r 2 k) = 2 ∧ ad r 2 k ≠ q := fun k a c => by
    have := hV.2.2.2.2.1.2.2.2.2 k a (by rw [hS.1]; exact c)
    exact ⟨this.1, this.2, fun z => hq.2 (by rw [← z]; exact this.2)⟩
  refine ⟨hR.1, ⟨hV5.1, hV5.2.1, hV5.2.2.1, hV5.2.2.2.1, ?_, hV5.2.2.2.2.2⟩, ⟨?_, ?_, hA, hN, hNI, ?_⟩, ?_, hP, hC, ?_⟩
  · refine ⟨by rw [e55]; omega, by rw [e55, kup_s]; exact hc1, by rw [kup_s]; exact hc2, by rw [e55]; omega, fun k a c => ?_⟩
    rw [e55] at c
    by_cases z : k = σ 5 0
    · rw [z, adn, rup_s, kup_s]; exact ⟨hr1, rfl⟩
    · have := kk k a (by omega)
      rw [adk k a (by omega), rup_s, hr2 k a (by omega), kup_n this.2.2]
      exact ⟨this.1, this.2.1⟩
  · exact mb_su (mb_su (mb_su (mb_su (mb_su (mb_su hB (show (0 : Int) ≤ v ∧ v ≤ (3 : Int) from hv)) (show (0 : Int) ≤ row ∧ row ≤ (3 : Int) from hkd.1)) (show (0 : Int) ≤ s ∧ s ≤ (20 : Int) by omega)) (show (0 : Int) ≤ x ∧ x ≤ (10000 : Int) from hkd.2.2.1)) (show (0 : Int) ≤ y ∧ y ≤ (10000 : Int) from hkd.2.2.2)) (show (0 : Int) ≤ σ 5 0 + 1 ∧ σ 5 0 + 1 ≤ (8 : Int) by omega)
  · intro k a c
    rcases hI k a c with z | ⟨z1, z2, z3, z4, z5⟩
    · exact Or.inl z
    · refine Or.inr ⟨z1, ?_, z3, z4, ?_⟩
      · show σ 15 k < σ 5 0 + 1; omega
      · show σ 16 k + σ 11 k ≤ iup (σ 2) (σ 5 0) s (σ 15 k)
        rw [iup_n (by omega)]; exact z5
  · have hz := no_rack hB hRV (x := σ 5 0) (Int.le_refl _) hn.1
    refine ⟨fun k a c => ?_, fun rw_ a c => ?_, hML.2.2⟩
    · have c' : k < σ 5 0 + 1 := c
      show m_weighs σ k ≤ iup (σ 3) (σ 5 0) x k ∧ m_worst σ k 0 ≤ iup (σ 4) (σ 5 0) y k ∧ m_worst σ k 1 ≤ iup (σ 4) (σ 5 0) y k
      by_cases z : k = σ 5 0
      · rw [z, iup_s, iup_s, hz.1, hz.2.1, hz.2.2]; omega
      · rw [iup_n z, iup_n z]; exact hML.1 k a (by omega)
    · have h1 := hML.2.1 rw_ a c
      refine ⟨?_, ?_⟩
      · show sm (m_rw (su (su (su (su (su (su σ 0 0 v) 1 (σ 5 0) row) 2 (σ 5 0) s) 3 (σ 5 0) x) 4 (σ 5 0) y) 5 0 (σ 5 0 + 1)) rw_) (σ 5 0 + 1) ≤ σ 7 rw_
        rw [sm_s _ hn.1]
        have e1 : sm (m_rw (su (su (su (su (su (su σ 0 0 v) 1 (σ 5 0) row) 2 (σ 5 0) s) 3 (σ 5 0) x) 4 (σ 5 0) y) 5 0 (σ 5 0 + 1)) rw_) (σ 5 0) = m_rowWeighs σ rw_ := by
          refine sm_cong hn.1 (fun k p u => ?_)
          show (if iup (σ 1) (σ 5 0) row k = rw_ then m_weighs σ k else 0) = m_rw σ rw_ k
          rw [iup_n (by omega)]; rfl
        have e2 : m_rw (su (su (su (su (su (su σ 0 0 v) 1 (σ 5 0) row) 2 (σ 5 0) s) 3 (σ 5 0) x) 4 (σ 5 0) y) 5 0 (σ 5 0 + 1)) rw_ (σ 5 0) = 0 := by
          show (if iup (σ 1) (σ 5 0) row (σ 5 0) = rw_ then m_weighs σ (σ 5 0) else 0) = 0
          rw [hz.1]; split <;> rfl
        rw [e1, e2]; omega
      · have e1 : m_rowHeats (su (su (su (su (su (su σ 0 0 v) 1 (σ 5 0) row) 2 (σ 5 0) s) 3 (σ 5 0) x) 4 (σ 5 0) y) 5 0 (σ 5 0 + 1)) rw_ = m_rowHeats σ rw_ := by
          refine sm_cong hm.1 (fun k p u => ?_)
          show (if σ 15 k ≠ -1 ∧ iup (σ 1) (σ 5 0) row (σ 15 k) = rw_ then σ 12 k else 0) = m_rh σ rw_ k
          have := lk_cell hB hI hA p u
          rw [iup_n (by omega)]; rfl
        rw [e1]; exact h1.2
  · refine ⟨e55, fun k a c => ?_, hS.2.2.1, hS.2.2.2⟩
    have c' : k < σ 5 0 + 1 := c
    by_cases z : k = σ 5 0
    · rw [z, adn]
      show sro τ q row s x y 40 q = iup (σ 1) (σ 5 0) row (σ 5 0) ∧ sro τ q row s x y 41 q = iup (σ 2) (σ 5 0) s (σ 5 0) ∧ sro τ q row s x y 42 q = iup (σ 3) (σ 5 0) x (σ 5 0) ∧ sro τ q row s x y 43 q = iup (σ 4) (σ 5 0) y (σ 5 0)
      rw [iup_s, iup_s, iup_s, iup_s]
      exact ⟨iup_s _ _ _, iup_s _ _ _, iup_s _ _ _, iup_s _ _ _⟩
    · rw [adk k a (by omega)]
      have h1 := hS.2.1 k a (by omega)
      have h2 := (kk k a (by omega)).2.2
      show sro τ q row s x y 40 (ad r 2 k) = iup (σ 1) (σ 5 0) row k ∧ sro τ q row s x y 41 (ad r 2 k) = iup (σ 2) (σ 5 0) s k ∧ sro τ q row s x y 42 (ad r 2 k) = iup (σ 3) (σ 5 0) x k ∧ sro τ q row s x y 43 (ad r 2 k) = iup (σ 4) (σ 5 0) y k
      rw [iup_n z, iup_n z, iup_n z, iup_n z, sro_ne h2, sro_ne h2, sro_ne h2, sro_ne h2]
      exact h1
  · refine LR_cong (σ := σ) (fun f f1 f2 => by rw [su_n (by omega), su_n (by omega), su_n (by omega), su_n (by omega), su_n (by omega), su_n (by omega)]) ?_
    exact LR_su hb (by omega) (LR_su hb (by omega) (LR_su hb (by omega) (LR_su hb (by omega) (LR_su hb (by omega) (LR_su hb (by omega) hL)))))
set_option maxRecDepth 100000 in
theorem J_addRack (l : Launch) (g : gT) {x : Nat} {h : fH} {σ : sT} (hX : SX g x h σ) (row s x0 y : Int) (hrow_ : -2147483648 ≤ row ∧ row ≤ 2147483647) (hs_ : -2147483648 ≤ s ∧ s ≤ 2147483647) (hx0_ : -2147483648 ≤ x0 ∧ x0 ≤ 2147483647) (hy_ : -2147483648 ≤ y ∧ y ≤ 2147483647) : CM l g yX4_addRack cX4_addRack 6 (some .int) { frames := 11, cells := 6, slots := 178, locals := 191 } [.ref x, .int (iI row), .int (iI s), .int (iI x0), .int (iI y)] h (fun v h1 => aR_c σ row s x0 y = 0 ∧ v = some (.int (iI (aR_a σ row s x0 y))) ∧ SX g x h1 (aR_s σ row s x0 y)) (fun E h1 => SX g x h1 (aR_s σ row s x0 y) ∧ ((aR_c σ row s x0 y = 1 ∧ E = "java/lang/IllegalArgumentException") ∨ (aR_c σ row s x0 y = 2 ∧ E = "java/lang/IllegalStateException"))) := by
  obtain ⟨P, K, r, cp, b, b', τ, rfl, rfl, hk, hR⟩ := hX
  obtain ⟨hb, hb2, hbb, hV, hW, hPC, hWn, hB, hI, hA, hN, hNI, hML, hS, hP, hC, hL, hRV⟩ := hR.facts
  have hm := mb_nm hB
  have hn := mb_nr hB
  have SXk : ∀ v : Int, 0 ≤ v ∧ v ≤ 3 → SX g (P 0) (cheap g P K r cp b b' τ) (su σ 0 0 v) := fun v hv => ⟨P, K, r, cp, b, b', τ, rfl, rfl, hk, hR.c0 hv⟩
  refine CM.mono (k_X4_addRack l g hk hb hb2 hV hW hPC (row := row) (hrow := hrow_) (s := s) (hs := hs_) (x := x0) (hx := hx0_) (y := y) (hy := hy_)) ?_ ?_
  · rintro v h1 ⟨rfl, h0, h2, q, ed, cap, r1, hq, rfl, hk2, hc1, hc2, hr1, hr2⟩
    have hfr := ch_fresh hk hq
    have eo : aR_ok row s x0 y = true := by unfold aR_ok; rw [inn_iff.mpr h0.1, inn_iff.mpr h0.2.1, inn_iff.mpr h0.2.2.1, inn_iff.mpr h0.2.2.2]; rfl
    have e : aR_c σ row s x0 y = 0 := by unfold aR_c; rw [if_pos eo, if_neg (by rw [← hS.1]; omega)]
    refine ⟨_, ⟨e, by rw [show aR_a σ row s x0 y = σ 5 0 from if_pos e, hS.1], ?_⟩, fun a e h9 => h9⟩
    rw [show aR_s σ row s x0 y = _ from if_pos e]
    exact ⟨kup P 25 ed, kup K q 2, rup r 2 r1, kup cp 2 cap, b, b', _, rfl, rfl, hk2, rx_addRack hR hfr.2 h0 h2 hc1 hc2 hr1 hr2 (aR_c_rng σ row s x0 y)⟩
  · rintro E h1 ⟨rfl, hv⟩
    rcases hv with ⟨rfl, h0⟩ | ⟨rfl, h0, h2⟩
    · have eo : ¬ aR_ok row s x0 y = true := fun z => h0 (by unfold aR_ok at z; simp only [Bool.and_eq_true] at z; exact ⟨inn_iff.mp z.1.1.1, inn_iff.mp z.1.1.2, inn_iff.mp z.1.2, inn_iff.mp z.2⟩)
      have e : aR_c σ row s x0 y = 1 := if_neg eo
      exact ⟨_, ⟨by rw [show aR_s σ row s x0 y = su σ 0 0 (aR_c σ row s x0 y) from if_neg (by omega)]; exact SXk _ (aR_c_rng σ row s x0 y), Or.inl ⟨e, rfl⟩⟩, fun a e h9 => h9⟩
    · have eo : aR_ok row s x0 y = true := by unfold aR_ok; rw [inn_iff.mpr h0.1, inn_iff.mpr h0.2.1, inn_iff.mpr h0.2.2.1, inn_iff.mpr h0.2.2.2]; rfl
      have e : aR_c σ row s x0 y = 2 := by unfold aR_c; rw [if_pos eo, if_pos (by rw [← hS.1]; omega)]
      exact ⟨_, ⟨by rw [show aR_s σ row s x0 y = su σ 0 0 (aR_c σ row s x0 y) from if_neg (by omega)]; exact SXk _ (aR_c_rng σ row s x0 y), Or.inr ⟨e, rfl⟩⟩, fun a e h9 => h9⟩
set_option maxRecDepth 100000 in
theorem J_setRow (l : Launch) (g : gT) {x : Nat} {h : fH} {σ : sT} (hX : SX g x h σ) (row x0 y : Int) (hrow_ : -2147483648 ≤ row ∧ row ≤ 2147483647) (hx0_ : -2147483648 ≤ x0 ∧ x0 ≤ 2147483647) (hy_ : -2147483648 ≤ y ∧ y ≤ 2147483647) : CM l g yX4_setRow cX4_setRow 4 none { frames := 11, cells := 4, slots := 24, locals := 162 } [.ref x, .int (iI row), .int (iI x0), .int (iI y)] h (fun v h1 => sR_c σ row x0 y = 0 ∧ v = none ∧ SX g x h1 (sR_s σ row x0 y)) (fun E h1 => SX g x h1 (sR_s σ row x0 y) ∧ ((sR_c σ row x0 y = 1 ∧ E = "java/lang/IllegalArgumentException") ∨ (sR_c σ row x0 y = 2 ∧ E = "java/lang/IllegalStateException"))) := by
  obtain ⟨P, K, r, cp, b, b', τ, rfl, rfl, hk, hR⟩ := hX
  obtain ⟨hb, hb2, hbb, hV, hW, hPC, hWn, hB, hI, hA, hN, hNI, hML, hS, hP, hC, hL, hRV⟩ := hR.facts
  have hm := mb_nm hB
  have hn := mb_nr hB
  have SXk : ∀ v : Int, 0 ≤ v ∧ v ≤ 3 → SX g (P 0) (cheap g P K r cp b b' τ) (su σ 0 0 v) := fun v hv => ⟨P, K, r, cp, b, b', τ, rfl, rfl, hk, hR.c0 hv⟩
  refine CM.mono (k_X4_setRow l g hk hb hb2 hV hW hPC (row := row) (hrow := hrow_) (x := x0) (hx := hx0_) (y := y) (hy := hy_)) ?_ ?_
  · rintro v h1 ⟨rfl, rfl, h0, h2⟩
    rw [lk_rh hB hRV hS hL, lk_rw hB hS hL] at h2
    have eo : sR_ok row x0 y = true := by unfold sR_ok; rw [inn_iff.mpr h0.1, inn_iff.mpr h0.2.1, inn_iff.mpr h0.2.2]; rfl
    have e : sR_c σ row x0 y = 0 := by unfold sR_c; rw [if_pos eo, if_neg h2]
    refine ⟨_, ⟨e, rfl, ?_⟩, fun a e h9 => h9⟩
    rw [show sR_s σ row x0 y = _ from if_pos e]
    refine ⟨P, K, r, cp, b, b', _, rfl, rfl, hk, hR.1, ⟨hV.1, hV.2.1, hV.2.2.1, hV.2.2.2.1, hV.2.2.2.2.1, ?_, ?_, hV.2.2.2.2.2.2.2⟩, ⟨?_, hI, hA, hN, hNI, hML.1, ?_, hML.2.2⟩, ⟨hS.1, hS.2.1, ?_, hS.2.2.2⟩, hP, hC, ?_⟩
    · intro z a c
      show 0 ≤ iup (τ 20) row x0 z ∧ iup (τ 20) row x0 z ≤ 10000
      by_cases w : z = row
      · rw [w, iup_s]; exact h0.2.1
      · rw [iup_n w]; exact hV.2.2.2.2.2.1 z a c
    · intro z a c
      show 0 ≤ iup (τ 21) row y z ∧ iup (τ 21) row y z ≤ 10000
      by_cases w : z = row
      · rw [w, iup_s]; exact h0.2.2
      · rw [iup_n w]; exact hV.2.2.2.2.2.2.1 z a c
    · exact mb_su (mb_su (mb_su hB (sR_c_rng σ row x0 y)) (show (0 : Int) ≤ x0 ∧ x0 ≤ (10000 : Int) from h0.2.1)) (show (0 : Int) ≤ y ∧ y ≤ (10000 : Int) from h0.2.2)
    · intro z a c
      show m_rowWeighs σ z ≤ iup (σ 7) row y z ∧ m_rowHeats σ z ≤ iup (σ 6) row x0 z
      by_cases w : z = row
      · rw [w, iup_s, iup_s]; omega
      · rw [iup_n w, iup_n w]; exact hML.2.1 z a c
    · intro z a c
      show iup (τ 20) row x0 z = iup (σ 6) row x0 z ∧ iup (τ 21) row y z = iup (σ 7) row y z
      by_cases w : z = row
      · rw [w, iup_s, iup_s, iup_s, iup_s]; exact ⟨rfl, rfl⟩
      · rw [iup_n w, iup_n w, iup_n w, iup_n w]; exact hS.2.2.1 z a c
    · exact LR_cong (σ := σ) (fun f f1 f2 => by rw [su_n (by omega), su_n (by omega), su_n (by omega)]) (LR_su hb (by omega) (LR_su hb (by omega) hL))
  · rintro E h1 ⟨rfl, hv⟩
    rw [lk_rh hB hRV hS hL, lk_rw hB hS hL] at hv
    rcases hv with ⟨rfl, h0⟩ | ⟨rfl, h0, h2⟩
    · have eo : ¬ sR_ok row x0 y = true := fun z => h0 (by unfold sR_ok at z; simp only [Bool.and_eq_true] at z; exact ⟨inn_iff.mp z.1.1, inn_iff.mp z.1.2, inn_iff.mp z.2⟩)
      have e : sR_c σ row x0 y = 1 := if_neg eo
      exact ⟨_, ⟨by rw [show sR_s σ row x0 y = su σ 0 0 (sR_c σ row x0 y) from if_neg (by omega)]; exact SXk _ (sR_c_rng σ row x0 y), Or.inl ⟨e, rfl⟩⟩, fun a e h9 => h9⟩
    · have eo : sR_ok row x0 y = true := by unfold sR_ok; rw [inn_iff.mpr h0.1, inn_iff.mpr h0.2.1, inn_iff.mpr h0.2.2]; rfl
      have e : sR_c σ row x0 y = 2 := by unfold sR_c; rw [if_pos eo, if_pos h2]
      exact ⟨_, ⟨by rw [show sR_s σ row x0 y = su σ 0 0 (sR_c σ row x0 y) from if_neg (by omega)]; exact SXk _ (sR_c_rng σ row x0 y), Or.inr ⟨e, rfl⟩⟩, fun a e h9 => h9⟩
set_option maxRecDepth 100000 in
theorem J_setFeed (l : Launch) (g : gT) {x : Nat} {h : fH} {σ : sT} (hX : SX g x h σ) (f x0 : Int) (hf_ : -2147483648 ≤ f ∧ f ≤ 2147483647) (hx0_ : -2147483648 ≤ x0 ∧ x0 ≤ 2147483647) : CM l g yX4_setFeed cX4_setFeed 4 (some .int) { frames := 12, cells := 3, slots := 18, locals := 182 } [.ref x, .int (iI f), .int (iI x0)] h (fun v h1 => sF_c σ f x0 = 0 ∧ v = some (.int (iI (sF_a σ f x0))) ∧ SX g x h1 (sF_s σ f x0)) (fun E h1 => SX g x h1 (sF_s σ f x0) ∧ ((sF_c σ f x0 = 1 ∧ E = "java/lang/IllegalArgumentException") ∨ (sF_c σ f x0 = 2 ∧ E = "java/lang/IllegalStateException"))) := by
  obtain ⟨P, K, r, cp, b, b', τ, rfl, rfl, hk, hR⟩ := hX
  obtain ⟨hb, hb2, hbb, hV, hW, hPC, hWn, hB, hI, hA, hN, hNI, hML, hS, hP, hC, hL, hRV⟩ := hR.facts
  have hm := mb_nm hB
  have hn := mb_nr hB
  have SXk : ∀ v : Int, 0 ≤ v ∧ v ≤ 3 → SX g (P 0) (cheap g P K r cp b b' τ) (su σ 0 0 v) := fun v hv => ⟨P, K, r, cp, b, b', τ, rfl, rfl, hk, hR.c0 hv⟩
  refine CM.mono (k_X4_setFeed l g hk hb hb2 hV hW hPC (f := f) (hf := hf_) (x := x0) (hx := hx0_)) ?_ ?_
  · rintro v h1 ⟨rfl, rfl, h0, h2⟩
    have ef : cAll τ (b + 5 + f.toNat) = m_worst σ (-1) f := by rcases (show f = 0 ∨ f = 1 by omega) with rfl | rfl; exact lk_w0 hB hRV hS hL; exact lk_w1 hB hRV hS hL
    rw [ef] at h2
    have eo : sF_ok f x0 = true := by unfold sF_ok; rw [inn_iff.mpr h0.1, inn_iff.mpr h0.2]; rfl
    have e : sF_c σ f x0 = 0 := by unfold sF_c; rw [if_pos eo, if_neg h2]
    refine ⟨_, ⟨e, by rw [show sF_a σ f x0 = σ 8 f from if_pos e, hS.2.2.2 f h0.1.1 (by omega)], ?_⟩, fun a e h9 => h9⟩
    rw [show sF_s σ f x0 = _ from if_pos e]
    refine ⟨P, K, r, cp, b, b', _, rfl, rfl, hk, hR.1, ⟨hV.1, hV.2.1, hV.2.2.1, hV.2.2.2.1, hV.2.2.2.2.1, hV.2.2.2.2.2.1, hV.2.2.2.2.2.2.1, ?_, hV.2.2.2.2.2.2.2.2⟩, ⟨?_, hI, hA, hN, hNI, hML.1, hML.2.1, ?_, ?_⟩, ⟨hS.1, hS.2.1, hS.2.2.1, ?_⟩, hP, hC, ?_⟩
    · intro z a c
      show 0 ≤ iup (τ 22) f x0 z ∧ iup (τ 22) f x0 z ≤ 20000
      by_cases w : z = f
      · rw [w, iup_s]; exact h0.2
      · rw [iup_n w]; exact hV.2.2.2.2.2.2.2.1 z a c
    · exact mb_su (mb_su hB (sF_c_rng σ f x0)) (show (0 : Int) ≤ x0 ∧ x0 ≤ (20000 : Int) from h0.2)
    · show m_worst σ (-1) 0 ≤ iup (σ 8) f x0 0
      by_cases w : (0 : Int) = f
      · subst w; rw [iup_s]; omega
      · rw [iup_n w]; exact hML.2.2.1
    · show m_worst σ (-1) 1 ≤ iup (σ 8) f x0 1
      by_cases w : (1 : Int) = f
      · subst w; rw [iup_s]; omega
      · rw [iup_n w]; exact hML.2.2.2
    · intro z a c
      show iup (τ 22) f x0 z = iup (σ 8) f x0 z
      by_cases w : z = f
      · rw [w, iup_s, iup_s]
      · rw [iup_n w, iup_n w]; exact hS.2.2.2 z a c
    · exact LR_cong (σ := σ) (fun f f1 f2 => by rw [su_n (by omega), su_n (by omega)]) (LR_su hb (by omega) hL)
  · rintro E h1 ⟨rfl, hv⟩
    rcases hv with ⟨rfl, h0⟩ | ⟨rfl, h0, h2⟩
    · have eo : ¬ sF_ok f x0 = true := fun z => h0 (by unfold sF_ok at z; simp only [Bool.and_eq_true] at z; exact ⟨inn_iff.mp z.1, inn_iff.mp z.2⟩)
      have e : sF_c σ f x0 = 1 := if_neg eo
      exact ⟨_, ⟨by rw [show sF_s σ f x0 = su σ 0 0 (sF_c σ f x0) from if_neg (by omega)]; exact SXk _ (sF_c_rng σ f x0), Or.inl ⟨e, rfl⟩⟩, fun a e h9 => h9⟩
    · have ef : cAll τ (b + 5 + f.toNat) = m_worst σ (-1) f := by rcases (show f = 0 ∨ f = 1 by omega) with rfl | rfl; exact lk_w0 hB hRV hS hL; exact lk_w1 hB hRV hS hL
      rw [ef] at h2
      have eo : sF_ok f x0 = true := by unfold sF_ok; rw [inn_iff.mpr h0.1, inn_iff.mpr h0.2]; rfl
      have e : sF_c σ f x0 = 2 := by unfold sF_c; rw [if_pos eo, if_pos h2]
      exact ⟨_, ⟨by rw [show sF_s σ f x0 = su σ 0 0 (sF_c σ f x0) from if_neg (by omega)]; exact SXk _ (sF_c_rng σ f x0), Or.inr ⟨e, rfl⟩⟩, fun a e h9 => h9⟩
set_option maxRecDepth 100000 in
theorem J_switchFeed (l : Launch) (g : gT) {x : Nat} {h : fH} {σ : sT} (hX : SX g x h σ) (f : Int) (hf_ : -2147483648 ≤ f ∧ f ≤ 2147483647) : CM l g yX4_switchFeed cX4_switchFeed 4 (some .int) { frames := 12, cells := 1, slots := 6, locals := 182 } [.ref x, .int (iI f)] h (fun v h1 => c01 (inn f 0 1) = 0 ∧ v = some (.int (iI (wF_a σ f))) ∧ SX g x h1 (wF_s σ f)) (fun E h1 => SX g x h1 (wF_s σ f) ∧ ((c01 (inn f 0 1) = 1 ∧ E = "java/lang/IllegalArgumentException"))) := by
  obtain ⟨P, K, r, cp, b, b', τ, rfl, rfl, hk, hR⟩ := hX
  obtain ⟨hb, hb2, hbb, hV, hW, hPC, hWn, hB, hI, hA, hN, hNI, hML, hS, hP, hC, hL, hRV⟩ := hR.facts
  have hm := mb_nm hB
  have hn := mb_nr hB
  have SXk : ∀ v : Int, 0 ≤ v ∧ v ≤ 3 → SX g (P 0) (cheap g P K r cp b b' τ) (su σ 0 0 v) := fun v hv => ⟨P, K, r, cp, b, b', τ, rfl, rfl, hk, hR.c0 hv⟩
  refine CM.mono (k_X4_switchFeed l g hk hb hb2 hV hW hPC (f := f) (hf := hf_)) ?_ ?_
  · rintro v h1 ⟨rfl, rfl, h0, h2⟩
    have e : c01 (inn f 0 1) = 0 := c01_t (inn_iff.mpr ⟨h0, h2⟩)
    have b9 : (0 : Int) ≤ σ 9 f ∧ σ 9 f ≤ 1 := hB 9 f h0 (show f < (2 : Int) by omega)
    have e9 := hP.2.2.2 f h0 (by omega)
    have hB9 : MB (su σ 9 f (1 - σ 9 f)) := mb_su hB (show (0 : Int) ≤ 1 - σ 9 f ∧ 1 - σ 9 f ≤ (1 : Int) by omega)
    have hP9 : ∀ σ' : sT, (∀ g9, 1 ≤ g9 → σ' g9 = su σ 9 f (1 - σ 9 f) g9) → PRel r (su τ 2 f (1 - τ 2 f)) σ' := fun σ' hs => by
      unfold PRel
      rw [hs 17 (by decide), hs 18 (by decide), hs 10 (by decide), hs 11 (by decide), hs 12 (by decide), hs 13 (by decide), hs 14 (by decide), hs 9 (by decide)]
      refine ⟨hP.1, hP.2.1, hP.2.2.1, fun z a c => ?_⟩
      show iup (τ 2) f (1 - τ 2 f) z = iup (σ 9) f (1 - σ 9 f) z
      by_cases w : z = f
      · rw [w, iup_s, iup_s, e9]
      · rw [iup_n w, iup_n w]; exact hP.2.2.2 z a c
    refine ⟨_, ⟨e, ?_, ?_⟩, fun a e h9 => h9⟩
    · rw [show wF_a σ f = sm (dk (su σ 9 f (1 - σ 9 f))) (σ 17 0) from if_pos e]
      exact congrArg (fun z => some (Value.int (iI z))) (lk_kt hB9 (hP9 _ (fun _ _ => rfl)))
    · rw [show wF_s σ f = _ from if_pos e]
      refine ⟨P, K, r, cp, b, b', _, rfl, rfl, hk, hR.1, hV.sw (by rw [e9]; omega), ⟨mb_su (mb_su hB (c01_rng _)) (show (0 : Int) ≤ 1 - σ 9 f ∧ 1 - σ 9 f ≤ (1 : Int) by omega), hI, hA, hN, hNI, hML⟩, hS, ?_, hC, ?_⟩
      · refine hP9 _ (fun g9 h9 => ?_)
        by_cases w : g9 = 9
        · subst w; rw [su_s, su_s, su_n (by decide)]
        · rw [su_n w, su_n w, su_n (by omega)]
      · exact LR_cong (σ := σ) (fun f f1 f2 => by
          by_cases w : f = 9
          · omega
          · rw [su_n w, su_n (by omega)]) (LR_su hb (by omega) hL)
  · rintro E h1 ⟨rfl, rfl, h0⟩
    have e : c01 (inn f 0 1) = 1 := c01_f (inn_f.mpr h0)
    refine ⟨_, ⟨?_, e, rfl⟩, fun a e h9 => h9⟩
    rw [show wF_s σ f = su σ 0 0 (c01 (inn f 0 1)) from if_neg (by omega)]
    exact SXk _ (c01_rng _)
