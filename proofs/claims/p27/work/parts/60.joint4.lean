/-! ===== class and reference together: a machine taken out ===== -/
theorem rx_takeOut {K : Nat → Nat} {r : Nat → Int → Option Nat} {cp : Nat → Nat} {b b' : Nat} {τ σ : sT} (hR : RX K r cp b b' τ σ) {a : Int} (h0 : 0 ≤ a) (h1 : a < σ 17 0) {cap : Nat} {r1 : Int → Option Nat} (hc1 : τ 53 0 - 1 ≤ cap) (hc2 : cap ≤ 150) (hl : ∀ j, 0 ≤ j → j < a → r1 j = r 0 j) (hg : ∀ j, a ≤ j → j < τ 53 0 - 1 → r1 j = r 0 (j + 1)) {v : Int} (hv : 0 ≤ v ∧ v ≤ 3) :
    RX K (rup r 0 r1) (kup cp 0 cap) b b' (cTo τ b (ad r 0 a)) (m_sh (su (su σ 0 0 v) 17 0 (σ 17 0 - 1)) a (σ 17 0 - 1)) := by
  obtain ⟨hb, hb2, hbb, hV, hW, hPC, hWn, hB, hI, hA, hN, hNI, hML, hS, hP, hC, hL, hRV⟩ := hR.facts
  have hm := mb_nm hB
  have hcl := lk_cell hB hI hA h0 h1
  have e_lo : ∀ (f : Nat) (z : Int), 1 ≤ f → f ≤ 9 → m_sh (su (su σ 0 0 v) 17 0 (σ 17 0 - 1)) a (σ 17 0 - 1) f z = σ f z := fun f z p q => by
    unfold m_sh
    rw [if_neg (by omega), su_n (by omega), su_n (by omega)]
  have e17 : m_sh (su (su σ 0 0 v) 17 0 (σ 17 0 - 1)) a (σ 17 0 - 1) 17 0 = σ 17 0 - 1 := by
    unfold m_sh
    rw [if_neg (by omega)]
    rw [su_s, iup_s]
  have e18 : m_sh (su (su σ 0 0 v) 17 0 (σ 17 0 - 1)) a (σ 17 0 - 1) 18 0 = σ 18 0 := by
    unfold m_sh
    rw [if_neg (by omega), su_n (by omega), su_n (by omega)]
  have e_f : ∀ (f : Nat) (j : Int), 10 ≤ f → f ≤ 16 → 0 ≤ j → j < σ 17 0 - 1 → m_sh (su (su σ 0 0 v) 17 0 (σ 17 0 - 1)) a (σ 17 0 - 1) f j = σ f (if j < a then j else j + 1) := fun f j p q x y => by
    unfold m_sh
    rw [if_pos ⟨p, q⟩, su_n (by omega), su_n (by omega)]
    by_cases z : j < a
    · rw [if_neg (by omega), if_pos z]
    · rw [if_pos (by omega), if_neg z]
  have hB' : MB (m_sh (su (su σ 0 0 v) 17 0 (σ 17 0 - 1)) a (σ 17 0 - 1)) := mb_sh (mb_su (mb_su hB hv) (show (0 : Int) ≤ σ 17 0 - 1 ∧ σ 17 0 - 1 ≤ (60 : Int) by omega)) h0 (by omega)
  generalize hσ' : m_sh (su (su σ 0 0 v) 17 0 (σ 17 0 - 1)) a (σ 17 0 - 1) = σ' at *
  have ixr : ∀ j : Int, 0 ≤ j → j < σ 17 0 - 1 → 0 ≤ (if j < a then j else j + 1) ∧ (if j < a then j else j + 1) < σ 17 0 ∧ (if j < a then j else j + 1) ≠ a := fun j p q => by split <;> omega
  have hI' : IW σ' := by
    intro j p q
    rw [e17] at q
    have hx := ixr j p q
    rw [e_f 15 j (by decide) (by decide) p q, e_f 16 j (by decide) (by decide) p q, e_f 11 j (by decide) (by decide) p q, e_lo 5 _ (by decide) (by decide), e_lo 2 _ (by decide) (by decide)]
    exact hI _ hx.1 hx.2.1
  have hA' : AP σ' := by
    intro j p q
    rw [e17] at q
    have hx := ixr j p q
    rw [e_f 15 j (by decide) (by decide) p q]
    exact hA _ hx.1 hx.2.1
  have hN' : NO σ' := by
    intro i j p q x y ne
    rw [e17] at q y
    have hi := ixr i p q
    have hj := ixr j x y
    rw [e_f 15 j (by decide) (by decide) x y, e_f 16 j (by decide) (by decide) x y, e_f 11 j (by decide) (by decide) x y, e_f 15 i (by decide) (by decide) p q, e_f 16 i (by decide) (by decide) p q, e_f 11 i (by decide) (by decide) p q]
    exact hN _ _ hi.1 hi.2.1 hj.1 hj.2.1 (by (repeat' split) <;> omega)
  have hNI' : NI σ' := by
    refine ⟨fun i j p q y => ?_, fun j p q => ?_⟩
    · rw [e17] at y
      have hi := ixr i p (by omega)
      have hj := ixr j (by omega) y
      rw [e_f 10 j (by decide) (by decide) (by omega) y, e_f 10 i (by decide) (by decide) p (by omega)]
      exact hNI.1 _ _ hi.1 (by (repeat' split) <;> omega) hj.2.1
    · rw [e17] at q
      have hj := ixr j p q
      rw [e_f 10 j (by decide) (by decide) p q, e18]
      exact hNI.2 _ hj.1 hj.2.1
  have hV1 : CV K r cp (cClr τ b (ad r 0 a)) := hV.of (fun f hf => cClr_fix hb hf)
  have f53 : cClr τ b (ad r 0 a) 53 = τ 53 := cClr_fix hb rfl
  have f0 : ∀ f, cfix f = true → f ≠ 50 → f ≠ 53 → cTo τ b (ad r 0 a) f = τ f := fun f hf p q => by unfold cTo; rw [su_n q, su_n p, cClr_fix hb hf]
  have t53 : cTo τ b (ad r 0 a) 53 0 = τ 53 0 - 1 := by
    unfold cTo
    rw [su_s, iup_s, f53]
  have adr : ∀ j, 0 ≤ j → j < σ 17 0 - 1 → rup r 0 r1 0 j = r 0 (if j < a then j else j + 1) := fun j p q => by
    rw [rup_s]
    by_cases z : j < a
    · rw [if_pos z, hl j p z]
    · rw [if_neg z, hg j (by omega) (by rw [hP.1]; exact q)]
  have ada : ∀ j, 0 ≤ j → j < σ 17 0 - 1 → ad (rup r 0 r1) 0 j = ad r 0 (if j < a then j else j + 1) := fun j p q => by
    unfold ad
    rw [adr j p q]
  have hL1 : LR (cClr τ b (ad r 0 a)) b (su σ 15 a (-1)) := lr_unput hb hB hN hL h0 h1 ⟨hcl.1.1, hcl.1.2.2⟩ ⟨hcl.2.1, hcl.2.2.1, by omega⟩ (hC a h0 h1) ⟨(hP.2.1 a h0 h1).2.1, (hP.2.1 a h0 h1).2.2.1, (hP.2.1 a h0 h1).2.2.2.1, (hP.2.1 a h0 h1).2.2.2.2⟩
  have hL2 : LR (cClr τ b (ad r 0 a)) b σ' := by
    refine lr_less (σ := su σ 15 a (-1)) (a := a) (mb_su hB (show (-1 : Int) ≤ -1 ∧ (-1 : Int) ≤ (7 : Int) by decide)) hB' hN' hL1 h0 h1 e17 (fun f j p q x y => ?_) (iup_s _ _ _)
    have y' : j < σ 17 0 - 1 := y
    have hx := ixr j x y'
    rw [e_f f j p q x y']
    exact (su_ne hx.2.2).symm
  have hL' : LR (cTo τ b (ad r 0 a)) b σ' := by
    unfold cTo
    exact LR_su hb (by omega) (LR_su hb (by omega) hL2)
  have hML' : ML σ' := by
    refine ml_le hB hB' hRV hI'.rv (fun f z p q => e_lo f z p (by omega)) (fun x p q => ?_) hML
    have k1 := hL.1 x p q
    have k2 := hL2.1 x p q
    have hmb := hV.1 _ (hV.2.2.1.2.2.2.2 a h0 (by rw [hP.1]; exact h1)).2
    have w0 := m_pw_2000 (c := τ 34 (ad r 0 a)) (f := 0) hmb.2.2.1
    have w1 := m_pw_2000 (c := τ 34 (ad r 0 a)) (f := 1) hmb.2.2.1
    rw [cClr_2 hb, cClr_3 hb, cClr_5 hb, cClr_6 hb, iup_if, iup_if, iup_if, iup_if] at k2
    by_cases z : x = τ 35 (ad r 0 a) / 20
    · rw [if_pos z, if_pos z, if_pos z, if_pos z, ← z] at k2; omega
    · rw [if_neg z, if_neg z, if_neg z, if_neg z] at k2; omega
  have hS' : SRel (rup r 0 r1) (cTo τ b (ad r 0 a)) σ' := by
    unfold SRel
    rw [f0 55 rfl (by decide) (by decide), f0 40 rfl (by decide) (by decide), f0 41 rfl (by decide) (by decide), f0 42 rfl (by decide) (by decide), f0 43 rfl (by decide) (by decide), f0 20 rfl (by decide) (by decide), f0 21 rfl (by decide) (by decide), f0 22 rfl (by decide) (by decide), e_lo 5 _ (by decide) (by decide)]
    refine ⟨hS.1, fun k p q => ?_, fun z p q => ?_, fun z p q => ?_⟩
    · rw [e_lo 1 _ (by decide) (by decide), e_lo 2 _ (by decide) (by decide), e_lo 3 _ (by decide) (by decide), e_lo 4 _ (by decide) (by decide)]
      exact hS.2.1 k p q
    · rw [e_lo 6 _ (by decide) (by decide), e_lo 7 _ (by decide) (by decide)]
      exact hS.2.2.1 z p q
    · rw [e_lo 8 _ (by decide) (by decide)]
      exact hS.2.2.2 z p q
  have hP' : PRel (rup r 0 r1) (cTo τ b (ad r 0 a)) σ' := by
    unfold PRel
    rw [t53, e17, f0 30 rfl (by decide) (by decide), f0 31 rfl (by decide) (by decide), f0 32 rfl (by decide) (by decide), f0 33 rfl (by decide) (by decide), f0 34 rfl (by decide) (by decide), f0 0 rfl (by decide) (by decide), f0 2 rfl (by decide) (by decide), e18]
    refine ⟨by rw [hP.1], fun j p q => ?_, hP.2.2.1, fun z p q => ?_⟩
    · have hx := ixr j p q
      rw [ada j p q, e_f 10 j (by decide) (by decide) p q, e_f 11 j (by decide) (by decide) p q, e_f 12 j (by decide) (by decide) p q, e_f 13 j (by decide) (by decide) p q, e_f 14 j (by decide) (by decide) p q]
      exact hP.2.1 _ hx.1 hx.2.1
    · rw [e_lo 9 _ (by decide) (by decide)]
      exact hP.2.2.2 z p q
  have hC' : PCel (rup r 0 r1) (cTo τ b (ad r 0 a)) σ' := by
    unfold PCel
    rw [f0 35 rfl (by decide) (by decide), e17]
    intro j p q
    have hx := ixr j p q
    rw [ada j p q, e_f 15 j (by decide) (by decide) p q, e_f 16 j (by decide) (by decide) p q]
    exact hC _ hx.1 hx.2.1
  refine ⟨hR.1, ⟨hV1.1, hV1.2.1, ?_, hV1.2.2.2.1, hV1.2.2.2.2.1, hV1.2.2.2.2.2⟩, ⟨hB', hI', hA', hN', hNI', hML'⟩, hS', hP', hC', hL'⟩
  refine ⟨by rw [t53, hP.1]; omega, by rw [t53, kup_s]; exact hc1, by rw [kup_s]; exact hc2, by rw [t53, hP.1]; omega, fun j p q => ?_⟩
  rw [t53, hP.1] at q
  have hx := ixr j p q
  rw [ada j p q, adr j p q]
  exact hV.2.2.1.2.2.2.2 _ hx.1 (by rw [hP.1]; exact hx.2.1)
set_option maxRecDepth 100000 in
theorem J_takeOut (l : Launch) (g : gT) {x : Nat} {h : fH} {σ : sT} (hX : SX g x h σ) (num : Int) (hnum_ : -2147483648 ≤ num ∧ num ≤ 2147483647) : CM l g yX4_takeOut cX4_takeOut 4 (some .int) { frames := 11, cells := 1, slots := 6, locals := 162 } [.ref x, .int (iI num)] h (fun v h1 => fnd_c σ num = 0 ∧ v = some (.int (iI (tO_a σ num))) ∧ SX g x h1 (tO_s σ num)) (fun E h1 => SX g x h1 (tO_s σ num) ∧ ((fnd_c σ num = 1 ∧ E = "java/lang/IndexOutOfBoundsException"))) := by
  obtain ⟨P, K, r, cp, b, b', τ, rfl, rfl, hk, hR⟩ := hX
  obtain ⟨hb, hb2, hbb, hV, hW, hPC, hWn, hB, hI, hA, hN, hNI, hML, hS, hP, hC, hL, hRV⟩ := hR.facts
  have hm := mb_nm hB
  have hn := mb_nr hB
  have SXk : ∀ v : Int, 0 ≤ v ∧ v ≤ 3 → SX g (P 0) (cheap g P K r cp b b' τ) (su σ 0 0 v) := fun v hv => ⟨P, K, r, cp, b, b', τ, rfl, rfl, hk, hR.c0 hv⟩
  refine CM.mono (k_X4_takeOut l g hk hb hb2 hV hW hPC (num := num) (hnum := hnum_)) ?_ ?_
  · rintro v h1 ⟨rfl, h0, h2, ed, cap, r1, rfl, hk2, hc1, hc2, hl, hg⟩
    rw [lk_ix hB hP] at h0 h2 hl hg ⊢
    rw [hP.1] at h2
    have e : fnd_c σ num = 0 := if_neg (by omega)
    refine ⟨_, ⟨e, by rw [show tO_a σ num = _ from if_pos e, (lk_rack hB hI hA hC h0 h2).1], ?_⟩, fun a e h9 => h9⟩
    rw [show tO_s σ num = _ from if_pos e]
    exact ⟨kup P 23 ed, K, rup r 0 r1, kup cp 0 cap, b, b', _, rfl, rfl, hk2, rx_takeOut hR h0 h2 hc1 hc2 hl hg (fnd_c_rng σ num)⟩
  · rintro E h1 ⟨rfl, rfl, h0⟩
    rw [lk_ix hB hP] at h0
    have e : fnd_c σ num = 1 := if_pos h0
    exact ⟨_, ⟨by rw [show tO_s σ num = su σ 0 0 (fnd_c σ num) from if_neg (by omega)]; exact SXk _ (fnd_c_rng σ num), e, rfl⟩, fun a e h9 => h9⟩
