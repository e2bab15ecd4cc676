/-! ===== class and reference together: cords, a machine taken out, a machine placed ===== -/
theorem sm_mono {f g : Int → Int} {n : Int} (hn : 0 ≤ n) (h : ∀ k, 0 ≤ k → k < n → f k ≤ g k) : sm f n ≤ sm g n := by
  refine sm_ind (p := fun m => m ≤ n → sm f m ≤ sm g m) n ?_ ?_ hn (Int.le_refl n)
  · intro _; exact Int.le_refl _
  · intro k h1 h2 ih _
    have := h k h1 h2
    have := ih (by omega)
    rw [sm_s f h1, sm_s g h1]
    omega
theorem ml_le {σ σ' : sT} (hB : MB σ) (hB' : MB σ') (hr : RV σ) (hr' : RV σ') (hf : ∀ (f : Nat) (z : Int), 1 ≤ f → f ≤ 8 → σ' f z = σ f z) (hs : ∀ k, 0 ≤ k → k < 8 → m_weighs σ' k ≤ m_weighs σ k ∧ m_hts σ' k ≤ m_hts σ k ∧ m_worst σ' k 0 ≤ m_worst σ k 0 ∧ m_worst σ' k 1 ≤ m_worst σ k 1) (hL : ML σ) : ML σ' := by
  have hn := mb_nr hB
  have e5 := hf 5 0 (by decide) (by decide)
  refine ⟨fun k a b => ?_, fun row a b => ?_, ?_, ?_⟩
  · rw [e5] at b
    have h1 := hs k a (by omega)
    have h2 := hL.1 k a b
    rw [hf 3 k (by decide) (by decide), hf 4 k (by decide) (by decide)]
    omega
  · have h2 := hL.2.1 row a b
    have s1 : m_rowWeighs σ' row ≤ m_rowWeighs σ row := by
      unfold m_rowWeighs
      rw [e5]
      refine sm_mono hn.1 (fun k x y => ?_)
      have h1 := hs k x (by omega)
      unfold m_rw
      rw [hf 1 k (by decide) (by decide)]
      split <;> omega
    have s2 : m_rowHeats σ' row ≤ m_rowHeats σ row := by
      rw [← sum_heats hB hr, ← sum_heats hB' hr', e5]
      refine sm_mono hn.1 (fun k x y => ?_)
      have h1 := hs k x (by omega)
      rw [hf 1 k (by decide) (by decide)]
      split <;> omega
    rw [hf 7 row (by decide) (by decide), hf 6 row (by decide) (by decide)]
    omega
  · have s1 : m_worst σ' (-1) 0 ≤ m_worst σ (-1) 0 := by
      rw [← sum_worst hB hr, ← sum_worst hB' hr', e5]
      exact sm_mono hn.1 (fun k x y => (hs k x (by omega)).2.2.1)
    have := hL.2.2.1
    rw [hf 8 0 (by decide) (by decide)]
    omega
  · have s1 : m_worst σ' (-1) 1 ≤ m_worst σ (-1) 1 := by
      rw [← sum_worst hB hr, ← sum_worst hB' hr', e5]
      exact sm_mono hn.1 (fun k x y => (hs k x (by omega)).2.2.2)
    have := hL.2.2.2
    rw [hf 8 1 (by decide) (by decide)]
    omega
/-- two states that one layout shows -/
theorem lr_same {τ σ σ' : sT} {w : Nat} (h : LR τ w σ) (h' : LR τ w σ') {k : Int} (a : 0 ≤ k) (b : k < 8) : m_weighs σ' k = m_weighs σ k ∧ m_hts σ' k = m_hts σ k ∧ m_worst σ' k 0 = m_worst σ k 0 ∧ m_worst σ' k 1 = m_worst σ k 1 := by
  have h1 := h.1 k a b
  have h2 := h'.1 k a b
  omega
/-- different places of the list, different objects -/
theorem ad_ne {r : Nat → Int → Option Nat} {τ σ : sT} (hP : PRel r τ σ) (hNI : NI σ) {j k : Int} (j0 : 0 ≤ j) (j1 : j < σ 17 0) (k0 : 0 ≤ k) (k1 : k < σ 17 0) (h : j ≠ k) : ad r 0 j ≠ ad r 0 k := by
  intro z
  have h1 := (hP.2.1 j j0 j1).1
  have h2 := (hP.2.1 k k0 k1).1
  rw [z] at h1
  rcases Int.lt_or_gt_of_ne h with y | y
  · have := hNI.1 j k j0 y k1; omega
  · have := hNI.1 k j k0 y j1; omega
theorem cd_back (σ : sT) (a k c : Int) : su (su (su (su σ 0 0 a) 14 k c) 0 0 3) 14 k (σ 14 k) = su σ 0 0 3 := by
  funext f z
  by_cases h14 : f = 14
  · subst h14
    show iup (iup (σ 14) k c) k (σ 14 k) z = σ 14 z
    by_cases e : z = k
    · rw [e, iup_s]
    · rw [iup_n e, iup_n e]
  · by_cases h0 : f = 0
    · subst h0
      show iup (iup (σ 0) 0 a) 0 3 z = iup (σ 0) 0 3 z
      by_cases e : z = 0
      · rw [e, iup_s, iup_s]
      · rw [iup_n e, iup_n e, iup_n e]
    · rw [su_n h14, su_n h0, su_n h14, su_n h0, su_n h0]
theorem CV.crd {K : Nat → Nat} {r : Nat → Int → Option Nat} {cp : Nat → Nat} {τ : sT} (h : CV K r cp τ) {q : Nat} {c : Int} (hc : 0 ≤ c ∧ c ≤ 2) : CV K r cp (su τ 34 q c) := by
  obtain ⟨hM, hR, hL0, hL1, hL2, hS⟩ := h
  have e : ∀ j, j ≠ 34 → su τ 34 q c j = τ j := fun j h1 => su_n h1
  refine ⟨fun a ha => ?_, ?_, ?_, ?_, ?_, ?_⟩
  · have h1 := hM a ha
    have h2 : 0 ≤ su τ 34 q c 34 a ∧ su τ 34 q c 34 a ≤ 2 := by
      rw [su_s]
      by_cases z : (a : Int) = q
      · rw [z, iup_s]; exact hc
      · rw [iup_n z]; exact h1.2.2.2.2.1
    unfold Mb
    rw [e 30 (by decide), e 31 (by decide), e 32 (by decide), e 33 (by decide), e 35 (by decide), e 36 (by decide)]
    exact ⟨h1.1, h1.2.1, h1.2.2.1, h1.2.2.2.1, h2, h1.2.2.2.2.2.1, h1.2.2.2.2.2.2⟩
  · unfold Rb
    rw [e 40 (by decide), e 41 (by decide), e 42 (by decide), e 43 (by decide)]
    exact hR
  · unfold Ls0; rw [e 53 (by decide)]; exact hL0
  · unfold Ls1; rw [e 54 (by decide)]; exact hL1
  · unfold Ls2; rw [e 55 (by decide)]; exact hL2
  · unfold Sb
    rw [e 20 (by decide), e 21 (by decide), e 22 (by decide), e 2 (by decide), e 0 (by decide)]
    exact hS
theorem CV.cord {K : Nat → Nat} {r : Nat → Int → Option Nat} {cp : Nat → Nat} {τ : sT} (h : CV K r cp τ) {w m : Nat} {c : Int} (hw : w = 5 ∨ w = 12) (hc : 0 ≤ c ∧ c ≤ 2) : CV K r cp (cCC τ w m c) := by
  unfold cCC
  refine CV.crd (CV.of h (fun f hf => ?_)) hc
  rw [su_n (lay_fix hw (by omega) hf), su_n (lay_fix hw (by omega) hf)]
theorem dle_lt (a b : Int) : decide (a ≤ b) = !decide (b < a) := by
  by_cases h : a ≤ b
  · rw [decide_eq_true h, decide_eq_false (by omega)]; rfl
  · rw [decide_eq_false h, decide_eq_true (by omega)]; rfl
theorem lk_bc {r : Nat → Int → Option Nat} {τ σ : sT} {w : Nat} (hB : MB σ) (hI : IW σ) (hA : AP σ) (hS : SRel r τ σ) (hP : PRel r τ σ) (hC : PCel r τ σ) (hL : LR τ w σ) {k c : Int} (h0 : 0 ≤ k) (h1 : k < σ 17 0) : cBC r τ w (ad r 0 k) c = !(cd_o σ k c 0 || cd_o σ k c 1) := by
  have hc := lk_cell hB hI hA h0 h1
  have hk := hP.2.1 k h0 h1
  have hl := hL.1 (σ 15 k) hc.1.1 hc.1.2.2
  unfold cBC cBM cd_o
  rw [(lk_rack hB hI hA hC h0 h1).1, (hS.2.1 _ hc.1.1 hc.1.2.1).2.2.2, hl.2.2.1, hl.2.2.2, lk_w0 hB hI.rv hS hL, lk_w1 hB hI.rv hS hL, hS.2.2.2 0 (by decide) (by decide), hS.2.2.2 1 (by decide) (by decide), hk.2.2.1, hk.2.2.2.2, wo_cd h0 h1 hc.1.1, wo_cd h0 h1 hc.1.1, wo_cda h0 h1 (by omega), wo_cda h0 h1 (by omega), if_pos rfl, if_pos rfl, Bool.not_or, Bool.not_or, Bool.not_or, dle_lt, dle_lt, dle_lt, dle_lt]
theorem rx_cord {K : Nat → Nat} {r : Nat → Int → Option Nat} {cp : Nat → Nat} {b b' : Nat} {τ σ : sT} (hR : RX K r cp b b' τ σ) {k c : Int} (h0 : 0 ≤ k) (h1 : k < σ 17 0) (hc : 0 ≤ c ∧ c ≤ 2) (ho : (cd_o σ k c 0 || cd_o σ k c 1) = false) {v : Int} (hv : 0 ≤ v ∧ v ≤ 3) : RX K r cp b b' (cCC τ b (ad r 0 k) c) (su (su (su σ 0 0 v) 14 k c) 0 0 0) := by
  obtain ⟨hb, hb2, hbb, hV, hW, hPC, hWn, hB, hI, hA, hN, hNI, hML, hS, hP, hC, hL, hRV⟩ := hR.facts
  have hcl := lk_cell hB hI hA h0 h1
  have hB1 : MB (su σ 14 k c) := mb_su hB (show (0 : Int) ≤ c ∧ c ≤ (2 : Int) from hc)
  have en : ∀ f, f ≠ b + 5 → f ≠ b + 6 → f ≠ 34 → cCC τ b (ad r 0 k) c f = τ f := fun f z1 z2 z3 => by unfold cCC; rw [su_n z3, su_n z2, su_n z1]
  have e34 : cCC τ b (ad r 0 k) c 34 = iup (τ 34) (ad r 0 k) c := by unfold cCC; rw [su_s, su_n (by omega), su_n (by omega)]
  unfold cd_o at ho
  simp only [Bool.or_eq_false_iff, decide_eq_false_iff_not] at ho
  have key : RX K r cp b b' (cCC τ b (ad r 0 k) c) (su σ 14 k c) := by
    refine ⟨hR.1, hV.cord hb hc, ⟨hB1, hI, hA, hN, hNI, fun x p q => ?_, hML.2.1, ?_, ?_⟩, ?_, ?_, ?_, lr_cord hb hL h0 h1 ⟨hcl.1.1, hcl.1.2.2, hcl.2.1, by omega⟩ (hC k h0 h1) ⟨(hP.2.1 k h0 h1).2.2.1, (hP.2.1 k h0 h1).2.2.2.2⟩⟩
    · have h2 := hML.1 x p q
      refine ⟨h2.1, ?_, ?_⟩
      · by_cases z : σ 15 k = x
        · subst z
          show m_worst (su σ 14 k c) (σ 15 k) 0 ≤ σ 4 (σ 15 k)
          omega
        · show m_worst (su σ 14 k c) x 0 ≤ σ 4 x
          rw [wo_cd h0 h1 p, if_neg z]; omega
      · by_cases z : σ 15 k = x
        · subst z
          show m_worst (su σ 14 k c) (σ 15 k) 1 ≤ σ 4 (σ 15 k)
          omega
        · show m_worst (su σ 14 k c) x 1 ≤ σ 4 x
          rw [wo_cd h0 h1 p, if_neg z]; omega
    · show m_worst (su σ 14 k c) (-1) 0 ≤ σ 8 0
      omega
    · show m_worst (su σ 14 k c) (-1) 1 ≤ σ 8 1
      omega
    · unfold SRel
      rw [en 55 (by omega) (by omega) (by omega), en 40 (by omega) (by omega) (by omega), en 41 (by omega) (by omega) (by omega), en 42 (by omega) (by omega) (by omega), en 43 (by omega) (by omega) (by omega), en 20 (by omega) (by omega) (by omega), en 21 (by omega) (by omega) (by omega), en 22 (by omega) (by omega) (by omega)]
      exact hS
    · unfold PRel
      rw [en 53 (by omega) (by omega) (by omega), en 30 (by omega) (by omega) (by omega), en 31 (by omega) (by omega) (by omega), en 32 (by omega) (by omega) (by omega), en 33 (by omega) (by omega) (by omega), en 0 (by omega) (by omega) (by omega), en 2 (by omega) (by omega) (by omega), e34]
      refine ⟨hP.1, fun j p q => ?_, hP.2.2.1, hP.2.2.2⟩
      have q' : j < σ 17 0 := q
      have h2 := hP.2.1 j p q'
      refine ⟨h2.1, h2.2.1, h2.2.2.1, h2.2.2.2.1, ?_⟩
      show iup (τ 34) (ad r 0 k) c (ad r 0 j) = iup (σ 14) k c j
      by_cases z : j = k
      · rw [z, iup_s, iup_s]
      · have := ad_ne hP hNI p q' h0 h1 z
        rw [iup_n z, iup_n (by omega)]
        exact h2.2.2.2.2
    · unfold PCel
      rw [en 35 (by omega) (by omega) (by omega)]
      exact hC
  refine Ag.rx (σ := su σ 14 k c) ⟨fun f z p q => by rw [su_n (by omega), su_n (by omega), su_n (by omega), su_n (by omega)], rfl, rfl, fun f j p q _ _ => ?_⟩ (mb_su (mb_su (mb_su hB hv) (show (0 : Int) ≤ c ∧ c ≤ (2 : Int) from hc)) (show (0 : Int) ≤ 0 ∧ (0 : Int) ≤ (3 : Int) by decide)) key
  by_cases z : f = 14
  · subst z; rfl
  · rw [su_n (by omega), su_n z, su_n (by omega), su_n z]
set_option maxRecDepth 100000 in
theorem J_cord (l : Launch) (g : gT) {x : Nat} {h : fH} {σ : sT} (hX : SX g x h σ) (num c : Int) (hnum_ : -2147483648 ≤ num ∧ num ≤ 2147483647) (hc_ : -2147483648 ≤ c ∧ c ≤ 2147483647) : CM l g yX4_cord cX4_cord 5 (some .int) { frames := 12, cells := 3, slots := 18, locals := 183 } [.ref x, .int (iI num), .int (iI c)] h (fun v h1 => cd_c σ num c = 0 ∧ v = some (.int (iI (cd_a σ num c))) ∧ SX g x h1 (cd_s σ num c)) (fun E h1 => SX g x h1 (cd_s σ num c) ∧ ((cd_c σ num c = 1 ∧ E = "java/lang/IndexOutOfBoundsException") ∨ (cd_c σ num c = 2 ∧ E = "java/lang/IllegalArgumentException") ∨ (cd_c σ num c = 3 ∧ E = "java/lang/IllegalStateException"))) := by
  obtain ⟨P, K, r, cp, b, b', τ, rfl, rfl, hk, hR⟩ := hX
  obtain ⟨hb, hb2, hbb, hV, hW, hPC, hWn, hB, hI, hA, hN, hNI, hML, hS, hP, hC, hL, hRV⟩ := hR.facts
  have hm := mb_nm hB
  have hn := mb_nr hB
  have SXk : ∀ v : Int, 0 ≤ v ∧ v ≤ 3 → SX g (P 0) (cheap g P K r cp b b' τ) (su σ 0 0 v) := fun v hv => ⟨P, K, r, cp, b, b', τ, rfl, rfl, hk, hR.c0 hv⟩
  refine CM.mono (k_X4_cord l g hk hb hb2 hV hW hPC (num := num) (hnum := hnum_) (c := c) (hc := hc_)) ?_ ?_
  · rintro v h1 ⟨rfl, h0, h2, h3, rfl⟩
    rw [lk_ix hB hP] at h0 h3 ⊢
    rw [hP.1] at h0
    have hc1 : cd_c1 σ num c = 0 := by unfold cd_c1; rw [if_neg (by omega), if_pos (inn_iff.mpr h2)]
    have ho : cd_ov σ num c = false := by
      rw [lk_bc hB hI hA hS hP hC hL h0.1 h0.2] at h3
      unfold cd_ov
      cases q : (cd_o σ (m_find σ num) c 0 || cd_o σ (m_find σ num) c 1) with
      | false => rfl
      | true => rw [q] at h3; cases h3
    have hon : ¬ cd_ov σ num c = true := by rw [ho]; exact Bool.false_ne_true
    have e : cd_c σ num c = 0 := by unfold cd_c; rw [if_pos hc1, if_neg hon]
    have es : cd_s σ num c = su (su (su σ 0 0 (cd_c1 σ num c)) 14 (m_find σ num) c) 0 0 0 := by unfold cd_s; rw [if_pos hc1, if_neg hon]
    refine ⟨_, ⟨e, by rw [show cd_a σ num c = _ from if_pos e, (hP.2.1 _ h0.1 h0.2).2.2.2.2], ?_⟩, fun a e h9 => h9⟩
    rw [es]
    exact ⟨P, K, r, cp, b, b', _, rfl, rfl, hk, rx_cord hR h0.1 h0.2 h2 ho (cd_c1_rng σ num c)⟩
  · rintro E h1 ⟨rfl, hv⟩
    rw [lk_ix hB hP, hP.1] at hv
    rcases hv with ⟨rfl, h0⟩ | ⟨rfl, h0, h2⟩ | ⟨rfl, h0, h2, h3⟩
    · have hc1 : cd_c1 σ num c = 1 := if_pos h0
      have e : cd_c σ num c = 1 := by unfold cd_c; rw [if_neg (by omega), hc1]
      have es : cd_s σ num c = su σ 0 0 (cd_c1 σ num c) := if_neg (by omega)
      exact ⟨_, ⟨by rw [es]; exact SXk _ (cd_c1_rng σ num c), Or.inl ⟨e, rfl⟩⟩, fun a e h9 => h9⟩
    · have hc1 : cd_c1 σ num c = 2 := by unfold cd_c1; rw [if_neg (by omega), if_neg (fun z => h2 (inn_iff.mp z))]
      have e : cd_c σ num c = 2 := by unfold cd_c; rw [if_neg (by omega), hc1]
      have es : cd_s σ num c = su σ 0 0 (cd_c1 σ num c) := if_neg (by omega)
      exact ⟨_, ⟨by rw [es]; exact SXk _ (cd_c1_rng σ num c), Or.inr (Or.inl ⟨e, rfl⟩)⟩, fun a e h9 => h9⟩
    · have hc1 : cd_c1 σ num c = 0 := by unfold cd_c1; rw [if_neg (by omega), if_pos (inn_iff.mpr h2)]
      have ho : cd_ov σ num c = true := by
        rw [lk_bc hB hI hA hS hP hC hL h0.1 h0.2] at h3
        unfold cd_ov
        cases q : (cd_o σ (m_find σ num) c 0 || cd_o σ (m_find σ num) c 1) with
        | true => rfl
        | false => rw [q] at h3; cases h3
      have e : cd_c σ num c = 3 := by unfold cd_c; rw [if_pos hc1, if_pos ho]
      have es : cd_s σ num c = su σ 0 0 3 := by unfold cd_s; rw [if_pos hc1, if_pos ho, cd_back]
      exact ⟨_, ⟨by rw [es]; exact SXk 3 (by decide), Or.inr (Or.inr ⟨e, rfl⟩)⟩, fun a e h9 => h9⟩
