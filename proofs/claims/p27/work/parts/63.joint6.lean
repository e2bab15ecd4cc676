/-! ===== class and reference together: roomFor ===== -/
theorem cPut_n {τ : sT} {w m f : Nat} {c : Int} (h : f ≠ w + 1 ∧ f ≠ w + 2 ∧ f ≠ w + 3 ∧ f ≠ w + 5 ∧ f ≠ w + 6) : cPut τ w m c f = τ f := by
  unfold cPut cAdd
  rw [su_n h.2.2.2.2, su_n h.2.2.2.1, su_n h.2.2.1, su_n h.2.1, sf_n h.1]
theorem cUp_n {r : Nat → Int → Option Nat} {τ : sT} {w m f : Nat} {k : Int} (h : f ≠ w + 1 ∧ f ≠ w + 2 ∧ f ≠ w + 3 ∧ f ≠ w + 5 ∧ f ≠ w + 6) : ∀ j, cUp r τ w k m j f = τ f
  | 0 => rfl
  | j + 1 => by
    show cPut _ w m _ f = _
    rw [cPut_n h, cUp_n h j]
theorem rfS_n {r : Nat → Int → Option Nat} {τ : sT} {w m f : Nat} (h : f ≠ w + 1 ∧ f ≠ w + 2 ∧ f ≠ w + 3 ∧ f ≠ w + 5 ∧ f ≠ w + 6) : ∀ k, rfS r τ w m k f = τ f
  | 0 => rfl
  | k + 1 => by
    show cUp _ _ _ _ _ _ f = _
    rw [cUp_n h, rfS_n h k]
theorem cCpA_n {τ : sT} {w w2 f : Nat} (h : f ≠ w + 1 ∧ f ≠ w + 2 ∧ f ≠ w + 3 ∧ f ≠ w + 5 ∧ f ≠ w + 6) : cCpA τ w w2 f = τ f := by
  unfold cCpA
  rw [sf_n h.2.2.2.2, sf_n h.2.2.2.1, sf_n h.2.2.1, sf_n h.2.1, sf_n h.1]
theorem fix_n {w f : Nat} (hw : w = 5 ∨ w = 12) (hf : cfix f = true) : f ≠ w + 1 ∧ f ≠ w + 2 ∧ f ≠ w + 3 ∧ f ≠ w + 5 ∧ f ≠ w + 6 := ⟨lay_fix hw (by omega) hf, lay_fix hw (by omega) hf, lay_fix hw (by omega) hf, lay_fix hw (by omega) hf, lay_fix hw (by omega) hf⟩
theorem cCpA_L {τ σ : sT} {w w2 : Nat} (h : LR τ w2 σ) : LR (cCpA τ w w2) w σ := by
  refine ⟨fun k a b => ?_, fun k s a b c d => ?_⟩
  · rw [cCpA_2, cCpA_3, cCpA_5, cCpA_6, icpI_rng a b, icpI_rng a b, icpI_rng a b, icpI_rng a b]
    exact h.1 k a b
  · rw [cCpA_1, icpI_rng (by omega) (by omega)]
    exact h.2 k s a b c d
theorem SRel.fix {r : Nat → Int → Option Nat} {τ τ' σ : sT} (h : SRel r τ σ) (e : ∀ f, cfix f = true → τ' f = τ f) : SRel r τ' σ := by
  unfold SRel
  rw [e 55 rfl, e 40 rfl, e 41 rfl, e 42 rfl, e 43 rfl, e 20 rfl, e 21 rfl, e 22 rfl]
  exact h
theorem PRel.fix {r : Nat → Int → Option Nat} {τ τ' σ : sT} (h : PRel r τ σ) (e : ∀ f, cfix f = true → τ' f = τ f) : PRel r τ' σ := by
  unfold PRel
  rw [e 53 rfl, e 30 rfl, e 31 rfl, e 32 rfl, e 33 rfl, e 34 rfl, e 0 rfl, e 2 rfl]
  exact h
theorem PCel.fix {r : Nat → Int → Option Nat} {τ τ' σ : sT} (h : PCel r τ σ) (e : ∀ f, cfix f = true → τ' f = τ f) : PCel r τ' σ := by
  unfold PCel
  rw [e 35 rfl]
  exact h
theorem CV.smo_n {K : Nat → Nat} {r : Nat → Int → Option Nat} {cp : Nat → Nat} {τ : sT} (h : CV K r cp τ) {q : Nat} (hq : K q ≠ 1 ∧ K q ≠ 2) (n s p w c : Int) : CV K r cp (smo τ q n s p w c) := by
  have e : ∀ f, f < 30 ∨ 36 < f → smo τ q n s p w c f = τ f := fun f hf => smo_lo hf
  obtain ⟨hM, hR, hL0, hL1, hL2, hS⟩ := h
  refine ⟨fun a ha => ?_, fun a ha => ?_, ?_, ?_, ?_, ?_⟩
  · have z : a ≠ q := fun z => hq.1 (by rw [← z]; exact ha)
    unfold Mb
    simp only [smo_ne z]
    exact hM a ha
  · have z : a ≠ q := fun z => hq.2 (by rw [← z]; exact ha)
    unfold Rb
    simp only [smo_ne z]
    exact hR a ha
  · unfold Ls0; rw [e 53 (by omega)]; exact hL0
  · unfold Ls1; rw [e 54 (by omega)]; exact hL1
  · unfold Ls2; rw [e 55 (by omega)]; exact hL2
  · unfold Sb
    rw [e 20 (by omega), e 21 (by omega), e 22 (by omega), e 2 (by omega), e 0 (by omega)]
    exact hS
set_option maxRecDepth 100000 in
theorem J_roomFor (l : Launch) (g : gT) {x : Nat} {h : fH} {σ : sT} (hX : SX g x h σ) (n p w c : Int) (hn_ : -2147483648 ≤ n ∧ n ≤ 2147483647) (hp_ : -2147483648 ≤ p ∧ p ≤ 2147483647) (hw_ : -2147483648 ≤ w ∧ w ≤ 2147483647) (hc_ : -2147483648 ≤ c ∧ c ≤ 2147483647) : CM l g yX4_roomFor cX4_roomFor 8 (some .int) { frames := 12, cells := 5, slots := 31, locals := 199 } [.ref x, .int (iI n), .int (iI p), .int (iI w), .int (iI c)] h (fun v h1 => c01 (m_kind n p w c) = 0 ∧ v = some (.int (iI (rc_a σ n p w c))) ∧ SX g x h1 (su σ 0 0 (c01 (m_kind n p w c)))) (fun E h1 => SX g x h1 (su σ 0 0 (c01 (m_kind n p w c))) ∧ ((c01 (m_kind n p w c) = 1 ∧ E = "java/lang/IllegalArgumentException"))) := by
  obtain ⟨P, K, r, cp, b, b', τ, rfl, rfl, hk, hR⟩ := hX
  obtain ⟨hb, hb2, hbb, hV, hW, hPC, hWn, hB, hI, hA, hN, hNI, hML, hS, hP, hC, hL, hRV⟩ := hR.facts
  have hm := mb_nm hB
  have hn := mb_nr hB
  have SXk : ∀ v : Int, 0 ≤ v ∧ v ≤ 3 → SX g (P 0) (cheap g P K r cp b b' τ) (su σ 0 0 v) := fun v hv => ⟨P, K, r, cp, b, b', τ, rfl, rfl, hk, hR.c0 hv⟩
  refine CM.mono (k_X4_roomFor l g hk hb hb2 hV hW hPC hbb hWn (n := n) (hn := hn_) (p := p) (hp := hp_) (w := w) (hw := hw_) (c := c) (hc := hc_)) ?_ ?_
  · rintro v h1 ⟨h0, q, m, q1, q2, hm55, rfl, rfl⟩
    have e : c01 (m_kind n p w c) = 0 := c01_t (kd_kind.mp h0)
    obtain ⟨mb, s31, s32, s33, s34⟩ := smoMb hV (q := q) h0
    have fx : ∀ f, cfix f = true → cCpA (smo τ q (τ 0 0) n p w c) b' b f = smo τ q (τ 0 0) n p w c f := fun f hf => cCpA_n (fix_n hb2 hf)
    have hSx : SRel r (cCpA (smo τ q (τ 0 0) n p w c) b' b) σ := (smo_S hS).fix fx
    have hLx : LR (cCpA (smo τ q (τ 0 0) n p w c) b' b) b' σ := cCpA_L (smo_L hb hL)
    have hVx : CV (kup K q 1) r cp (cCpA (smo τ q (τ 0 0) n p w c) b' b) := (hV.newm ⟨q1, q2⟩ h0).of fx
    have hml := lk_ml hB hRV hSx hLx hML
    have hWx : Wb (cCpA (smo τ q (τ 0 0) n p w c) b' b) b' := (lr_wn hB hLx).wb (by omega)
    have e1 := fill_cnt hb2 hVx hWx hml.1 hml.2 (kup_s K q 1) (m := m) (by rw [fx 55 rfl]; exact hm55)
    have e2 := lk_ca (m := q) hB hRV hSx hLx (by unfold Mb; rw [fx 30 rfl, fx 31 rfl, fx 32 rfl, fx 33 rfl, fx 34 rfl, fx 35 rfl, fx 36 rfl]; exact mb)
    rw [fx 31 rfl, fx 32 rfl, fx 33 rfl, fx 34 rfl, s31, s32, s33, s34] at e2
    refine ⟨_, ⟨e, by rw [show rc_a σ n p w c = rc_all σ n p w c from if_pos e, e1, e2], ?_⟩, fun a e h9 => h9⟩
    have F : ∀ f, cfix f = true → rfS r (cCpA (smo τ q (τ 0 0) n p w c) b' b) b' q m f = smo τ q (τ 0 0) n p w c f := fun f hf => by rw [rfS_fix hb2 hf, fx f hf]
    have F2 : ∀ i, 1 ≤ i → i ≤ 6 → rfS r (cCpA (smo τ q (τ 0 0) n p w c) b' b) b' q m (b + i) = τ (b + i) := fun i i1 i2 => by
      rw [rfS_n (by omega), cCpA_n (by omega), smo_lo (by omega)]
    have kk : ∀ k, 0 ≤ k → k < σ 17 0 → ad r 0 k ≠ q := fun k x y z => q1 (by rw [← z]; exact (hV.2.2.1.2.2.2.2 k x (by rw [hP.1]; exact y)).2)
    refine ⟨P, K, r, cp, b, b', _, rfl, rfl, hk, RX.c0 (σ := σ) ⟨hR.1, (hV.smo_n ⟨q1, q2⟩ _ _ _ _ _).of F, ⟨hB, hI, hA, hN, hNI, hML⟩, (smo_S hS).fix F, PRel.fix (τ := smo τ q (τ 0 0) n p w c) ?_ F, PCel.fix (τ := smo τ q (τ 0 0) n p w c) ?_ F, LR_τ (F2 1 (by decide) (by decide)) (F2 2 (by decide) (by decide)) (F2 3 (by decide) (by decide)) (F2 5 (by decide) (by decide)) (F2 6 (by decide) (by decide)) hL⟩ (c01_rng _)⟩
    · unfold PRel
      rw [smo_lo (f := 53) (by omega), smo_lo (f := 0) (by omega), smo_lo (f := 2) (by omega)]
      refine ⟨hP.1, fun k x y => ?_, hP.2.2⟩
      rw [smo_ne (kk k x y), smo_ne (kk k x y), smo_ne (kk k x y), smo_ne (kk k x y), smo_ne (kk k x y)]
      exact hP.2.1 k x y
    · intro k x y
      rw [smo_ne (kk k x y)]
      exact hC k x y
  · rintro E h1 ⟨rfl, rfl, h0⟩
    refine ⟨_, ⟨SXk _ (c01_rng _), c01_f ?_, rfl⟩, fun a e h9 => h9⟩
    cases hq : m_kind n p w c with
    | false => rfl
    | true => exact absurd (kd_kind.mpr hq) h0
