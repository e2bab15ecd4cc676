/-! ===== the law: its own arrays; what the deeds leave ===== -/
/-- the law's arrays: slots, limits, rows of the racks, limits of the rows' weights -/
def AR (g : gT) (k : fH) (a2 a3 a4 a5 : Nat) (σ : sT) : Prop := (a2 ≠ a3 ∧ a2 ≠ a4 ∧ a2 ≠ a5 ∧ a3 ≠ a4 ∧ a3 ≠ a5 ∧ a4 ≠ a5) ∧ ∃ SF LF WF MF : Int → Int, k a2 = some (iar (g.2.1 0) 8 SF) ∧ k a3 = some (iar (g.2.1 0) 8 LF) ∧ k a4 = some (iar (g.2.1 0) 8 WF) ∧ k a5 = some (iar (g.2.1 0) 4 MF) ∧ (∀ r : Int, 0 ≤ r → r < σ 5 0 → SF r = σ 2 r ∧ LF r = σ 4 r ∧ WF r = σ 1 r) ∧ ∀ row : Int, 0 ≤ row → row < 4 → MF row = σ 7 row ∧ σ 6 row = 10000
theorem AR.to {g : gT} {k : fH} {a2 a3 a4 a5 : Nat} {σ σ' : sT} (h : AR g k a2 a3 a4 a5 σ) (e : ∀ (f : Nat) (z : Int), 1 ≤ f → f ≤ 7 → σ' f z = σ f z) : AR g k a2 a3 a4 a5 σ' := by
  obtain ⟨hd, SF, LF, WF, MF, h2, h3, h4, h5, h6, h7⟩ := h
  refine ⟨hd, SF, LF, WF, MF, h2, h3, h4, h5, fun r a b => ?_, fun row a b => ?_⟩
  · rw [e 5 0 (by decide) (by decide)] at b
    rw [e 2 r (by decide) (by decide), e 4 r (by decide) (by decide), e 1 r (by decide) (by decide)]
    exact h6 r a b
  · rw [e 7 row (by decide) (by decide), e 6 row (by decide) (by decide)]
    exact h7 row a b
theorem su_c0 (σ : sT) {f : Nat} (hf : f ≠ 0) (z v a : Int) : su (su σ 0 0 a) f z v = su (su σ f z v) 0 0 a := by
  funext f' j
  by_cases h : f' = f
  · subst h
    rw [su_s, su_n hf, su_n hf, su_s]
  · rw [su_n h]
    by_cases h0 : f' = 0
    · subst h0
      rw [su_s, su_s, su_n h]
    · rw [su_n h0, su_n h0, su_n h]
theorem su_00 (σ : sT) (a b : Int) : su (su σ 0 0 a) 0 0 b = su σ 0 0 b := by
  funext f' j
  by_cases h : f' = 0
  · subst h
    rw [su_s, su_s, su_s, iup_iup]
  · rw [su_n h, su_n h, su_n h]
theorem su_back (σ : sT) (f : Nat) (z v : Int) : su (su σ f z v) f z (σ f z) = σ := by
  funext f' j
  by_cases h : f' = f
  · subst h
    rw [su_s, su_s, iup_iup, iup_id rfl]
  · rw [su_n h, su_n h]
section DM
variable {σ : sT}
theorem aR_0 {row s w p : Int} (hk4 : (0 ≤ row ∧ row ≤ 3) ∧ (1 ≤ s ∧ s ≤ 20) ∧ (0 ≤ w ∧ w ≤ 10000) ∧ (0 ≤ p ∧ p ≤ 10000)) (h8 : σ 5 0 < 8) : aR_c σ row s w p = 0 := by
  unfold aR_c
  rw [if_pos (show aR_ok row s w p = true from by unfold aR_ok; rw [inn_iff.mpr hk4.1, inn_iff.mpr hk4.2.1, inn_iff.mpr hk4.2.2.1, inn_iff.mpr hk4.2.2.2]; rfl), if_neg (by omega)]
theorem gp_full {e : Int → Bool} {s : Int} (hs : 0 ≤ s) (h : ∀ j, 0 ≤ j → j < s → e j = true) : gp e s = s ∧ fr e s = s := by
  refine sm_ind (p := fun t => t ≤ s → gp e t = t ∧ fr e t = t) s (fun _ => ⟨rfl, rfl⟩) (fun k a _ ih hle => ?_) hs (Int.le_refl _)
  obtain ⟨i1, i2⟩ := ih (by omega)
  have e1 : fr e (k + 1) = k + 1 := by rw [fr_s _ a, if_pos (h k a (by omega)), i2]
  rw [gp_s _ a, e1, i1]
  exact ⟨by omega, rfl⟩
theorem add_facts (h : IV σ) {row s w p : Int} (hk4 : (0 ≤ row ∧ row ≤ 3) ∧ (1 ≤ s ∧ s ≤ 20) ∧ (0 ≤ w ∧ w ≤ 10000) ∧ (0 ≤ p ∧ p ≤ 10000)) (h8 : σ 5 0 < 8) : aR_s σ row s w p 5 0 = σ 5 0 + 1 ∧ (aR_s σ row s w p 1 (σ 5 0) = row ∧ aR_s σ row s w p 2 (σ 5 0) = s ∧ aR_s σ row s w p 4 (σ 5 0) = p) ∧ (∀ r, r ≠ σ 5 0 → aR_s σ row s w p 1 r = σ 1 r ∧ aR_s σ row s w p 2 r = σ 2 r ∧ aR_s σ row s w p 4 r = σ 4 r) ∧ (∀ f : Nat, 6 ≤ f → aR_s σ row s w p f = σ f) ∧ (m_gap (aR_s σ row s w p) (σ 5 0) s).1 = s := by
  have hn := mb_nr h.1
  have eC := aR_0 hk4 h8
  have es : aR_s σ row s w p = su (su (su (su (su (su σ 0 0 0) 1 (σ 5 0) row) 2 (σ 5 0) s) 3 (σ 5 0) w) 4 (σ 5 0) p) 5 0 (σ 5 0 + 1) := by
    unfold aR_s
    rw [if_pos eC, eC]
  rw [es]
  have hi : ∀ f : Nat, 6 ≤ f → su (su (su (su (su (su σ 0 0 0) 1 (σ 5 0) row) 2 (σ 5 0) s) 3 (σ 5 0) w) 4 (σ 5 0) p) 5 0 (σ 5 0 + 1) f = σ f := fun f hf => by
    rw [su_n (by omega), su_n (by omega), su_n (by omega), su_n (by omega), su_n (by omega), su_n (by omega)]
  refine ⟨rfl, ⟨iup_s _ _ _, iup_s _ _ _, iup_s _ _ _⟩, fun r hr => ⟨iup_n hr, iup_n hr, iup_n hr⟩, hi, ?_⟩
  rw [m_gap_eq _ _ (by omega)]
  refine (gp_full (by omega) (fun j a b => decide_eq_true ?_)).1
  unfold m_inSlot
  rw [hi 17 (by decide)]
  refine ff_none (fun k x y => ?_)
  have c := h.mach x y
  unfold m_ins
  rw [hi 15 (by decide), decide_eq_false (show ¬ σ 15 k = σ 5 0 by omega)]
  rfl
theorem out_facts (h : IV σ) {m K : Int} (hf : m_find σ m = K) (k0 : 0 ≤ K) : (∀ (f : Nat) (z : Int), 1 ≤ f → f ≤ 9 → tO_s σ m f z = σ f z) ∧ tO_s σ m 17 0 = σ 17 0 - 1 ∧ tO_s σ m 18 0 = σ 18 0 ∧ fnd_c (tO_s σ m) m = 1 := by
  have hm := mb_nm h.1
  have hv := find_v h.1 (num := m) (by omega)
  have hc : fnd_c σ m = 0 := by unfold fnd_c; rw [hf]; exact if_neg (by omega)
  have e : tO_s σ m = m_sh (su (su σ 0 0 0) 17 0 (σ 17 0 - 1)) K (σ 17 0 - 1) := by
    unfold tO_s
    rw [if_pos hc, hf, hc]
  rw [e]
  refine ⟨fun f z a b => ?_, rfl, rfl, ?_⟩
  · unfold m_sh
    rw [if_neg (by omega), su_n (by omega), su_n (by omega)]
  · unfold fnd_c
    refine if_pos (ff_none (fun j x y => decide_eq_false ?_))
    have y' : j < σ 17 0 - 1 := y
    show ¬ (if 10 ≤ 10 ∧ 10 ≤ 16 then (if K ≤ j ∧ j < σ 17 0 - 1 then σ 10 (j + 1) else σ 10 j) else σ 10 j) = m
    rw [if_pos (by decide)]
    have r := h.2.2.2.2.1.1
    by_cases z : K ≤ j
    · rw [if_pos ⟨z, y'⟩]
      have := r K (j + 1) k0 (by omega) (by omega)
      rw [hf] at hv
      omega
    · rw [if_neg (fun q => z q.1)]
      have := r j K x (by omega) (by omega)
      rw [hf] at hv
      omega
variable {x : Nat} {h : fH} {kf : fH}
set_option maxRecDepth 100000 in
theorem KC_no (l : Launch) (g : gT) (hX : SL g x h σ kf) (m c : Int) {K : Int} (hf : m_find σ m = K) (k0 : 0 ≤ K) (m_r : -2147483648 ≤ m ∧ m ≤ 2147483647) (c0 : 0 ≤ c ∧ c ≤ 2) (hov : cd_ov σ m c = true) : CMW l g yL_corded cL_corded 4 (some .int) hL_corded { frames := 13, cells := 3, slots := 18, locals := 207 } [.ref x, .int (iI m), .int (iI c)] h (fun v1 h1 => v1 = some (.int (iI (-3))) ∧ SL g x h1 σ kf) := by
  have h1 : cd_c1 σ m c = 0 := by unfold cd_c1; rw [if_neg (by omega), if_pos (inn_iff.mpr c0)]
  have h2 : cd_c σ m c = 3 := by unfold cd_c; rw [if_pos h1, if_pos hov]
  have hB := hX.iv.1
  refine CMW.mono (KH_corded l g hX m c (by omega) m_r c0) ?_
  rintro v h' ⟨rfl, hX'⟩
  rw [h2, if_neg (by decide)]
  refine ⟨rfl, ?_⟩
  have e : cd_s σ m c = su σ 0 0 3 := by
    unfold cd_s
    rw [if_pos h1, if_pos hov]
    exact cd_back σ _ _ _
  rw [e] at hX'
  exact hX'.n0 hB
set_option maxRecDepth 100000 in
theorem KC_yes (l : Launch) (g : gT) (hX : SL g x h σ kf) (m c : Int) {K : Int} (hf : m_find σ m = K) (k0 : 0 ≤ K) (m_r : -2147483648 ≤ m ∧ m ≤ 2147483647) (c0 : 0 ≤ c ∧ c ≤ 2) (hov : cd_ov σ m c = false) : CMW l g yL_corded cL_corded 4 (some .int) hL_corded { frames := 13, cells := 3, slots := 18, locals := 207 } [.ref x, .int (iI m), .int (iI c)] h (fun v1 h1 => v1 = some (.int (iI (σ 14 K))) ∧ SL g x h1 (su σ 14 K c) kf) := by
  have h1 : cd_c1 σ m c = 0 := by unfold cd_c1; rw [if_neg (by omega), if_pos (inn_iff.mpr c0)]
  have h2 : cd_c σ m c = 0 := by unfold cd_c; rw [if_pos h1, hov]; rfl
  have hB := hX.iv.1
  refine CMW.mono (KH_corded l g hX m c (by omega) m_r c0) ?_
  rintro v h' ⟨rfl, hX'⟩
  rw [h2, if_pos rfl, hf]
  refine ⟨rfl, ?_⟩
  have e : cd_s σ m c = su (su σ 14 K c) 0 0 0 := by
    unfold cd_s
    rw [if_pos h1, hov, if_neg (by decide), h1, hf, su_c0 _ (by decide), su_00]
  rw [e] at hX'
  exact hX'.n0 (mb_su hB (show (0 : Int) ≤ c ∧ c ≤ (2 : Int) by omega))
theorem ov_back (h : IV σ) {m K c : Int} (hf : m_find σ m = K) (k0 : 0 ≤ K) (k1 : K < σ 17 0) : cd_ov (su σ 14 K c) m (σ 14 K) = false := by
  have e : m_find (su σ 14 K c) m = K := hf
  have a := h.mach k0 k1
  have hl := h.2.2.2.2.2.1 (σ 15 K) a.1.1 a.1.2
  have hl2 := h.2.2.2.2.2.2.2
  unfold cd_ov cd_o
  rw [e, su_back]
  show ((decide (σ 4 (σ 15 K) < m_worst σ (σ 15 K) 0) || decide (σ 8 0 < m_worst σ (-1) 0)) || (decide (σ 4 (σ 15 K) < m_worst σ (σ 15 K) 1) || decide (σ 8 1 < m_worst σ (-1) 1))) = false
  rw [decide_eq_false (by omega), decide_eq_false (by omega), decide_eq_false (by omega), decide_eq_false (by omega)]
  rfl
set_option maxRecDepth 100000 in
theorem KF_no (l : Launch) (g : gT) (hX : SL g x h σ kf) (f x0 : Int) (f0 : 0 ≤ f ∧ f ≤ 1) (x0_0 : 0 ≤ x0 ∧ x0 ≤ 20000) (hov : x0 < m_worst σ (-1) f) : CMW l g yL_feeds cL_feeds 4 (some .int) hL_feeds { frames := 13, cells := 3, slots := 18, locals := 205 } [.ref x, .int (iI f), .int (iI x0)] h (fun v1 h1 => v1 = some (.int (iI (-3))) ∧ SL g x h1 σ kf) := by
  have h2 : sF_c σ f x0 = 2 := by unfold sF_c; rw [if_pos (show sF_ok f x0 = true from by unfold sF_ok; rw [inn_iff.mpr f0, inn_iff.mpr x0_0]; rfl), if_pos hov]
  have hB := hX.iv.1
  refine CMW.mono (KH_feeds l g hX f x0 f0 x0_0) ?_
  rintro v h' ⟨rfl, hX'⟩
  rw [h2, if_neg (by decide)]
  refine ⟨rfl, ?_⟩
  have e : sF_s σ f x0 = su σ 0 0 2 := by unfold sF_s; rw [h2, if_neg (by decide)]
  rw [e] at hX'
  exact hX'.n0 hB
set_option maxRecDepth 100000 in
theorem KF_yes (l : Launch) (g : gT) (hX : SL g x h σ kf) (f x0 : Int) (f0 : 0 ≤ f ∧ f ≤ 1) (x0_0 : 0 ≤ x0 ∧ x0 ≤ 20000) (hov : ¬ x0 < m_worst σ (-1) f) : CMW l g yL_feeds cL_feeds 4 (some .int) hL_feeds { frames := 13, cells := 3, slots := 18, locals := 205 } [.ref x, .int (iI f), .int (iI x0)] h (fun v1 h1 => v1 = some (.int (iI (σ 8 f))) ∧ SL g x h1 (su σ 8 f x0) kf) := by
  have h2 : sF_c σ f x0 = 0 := by unfold sF_c; rw [if_pos (show sF_ok f x0 = true from by unfold sF_ok; rw [inn_iff.mpr f0, inn_iff.mpr x0_0]; rfl), if_neg hov]
  have hB := hX.iv.1
  refine CMW.mono (KH_feeds l g hX f x0 f0 x0_0) ?_
  rintro v h' ⟨rfl, hX'⟩
  rw [h2, if_pos rfl]
  refine ⟨rfl, ?_⟩
  have e : sF_s σ f x0 = su (su σ 8 f x0) 0 0 0 := by unfold sF_s; rw [h2, if_pos rfl, su_c0 _ (by decide)]
  rw [e] at hX'
  exact hX'.n0 (mb_su hB (show (0 : Int) ≤ x0 ∧ x0 ≤ (20000 : Int) by omega))
set_option maxRecDepth 100000 in
theorem KR_no (l : Launch) (g : gT) (hX : SL g x h σ kf) (row x0 y : Int) (w0 : 0 ≤ row ∧ row ≤ 3) (x0_0 : 0 ≤ x0 ∧ x0 ≤ 10000) (y0 : 0 ≤ y ∧ y ≤ 10000) (hov : y < m_rowWeighs σ row) : CMW l g yL_rows cL_rows 5 (some .int) hL_rows { frames := 12, cells := 4, slots := 24, locals := 185 } [.ref x, .int (iI row), .int (iI x0), .int (iI y)] h (fun v1 h1 => v1 = some (.int (iI (-3))) ∧ SL g x h1 σ kf) := by
  have h2 : sR_c σ row x0 y = 2 := by unfold sR_c; rw [if_pos (show sR_ok row x0 y = true from by unfold sR_ok; rw [inn_iff.mpr w0, inn_iff.mpr x0_0, inn_iff.mpr y0]; rfl), if_pos (Or.inr hov)]
  have hB := hX.iv.1
  refine CMW.mono (KH_rows l g hX row x0 y w0 x0_0 y0) ?_
  rintro v h' ⟨rfl, hX'⟩
  rw [h2, if_neg (by decide)]
  refine ⟨rfl, ?_⟩
  have e : sR_s σ row x0 y = su σ 0 0 2 := by unfold sR_s; rw [h2, if_neg (by decide)]
  rw [e] at hX'
  exact hX'.n0 hB
set_option maxRecDepth 100000 in
theorem KR_yes (l : Launch) (g : gT) (hX : SL g x h σ kf) (row x0 y : Int) (w0 : 0 ≤ row ∧ row ≤ 3) (x0_0 : 0 ≤ x0 ∧ x0 ≤ 10000) (y0 : 0 ≤ y ∧ y ≤ 10000) (hov : ¬ y < m_rowWeighs σ row) (hh : m_rowHeats σ row ≤ x0) : CMW l g yL_rows cL_rows 5 (some .int) hL_rows { frames := 12, cells := 4, slots := 24, locals := 185 } [.ref x, .int (iI row), .int (iI x0), .int (iI y)] h (fun v1 h1 => v1 = some (.int (iI 0)) ∧ SL g x h1 (su (su σ 6 row x0) 7 row y) kf) := by
  have h2 : sR_c σ row x0 y = 0 := by unfold sR_c; rw [if_pos (show sR_ok row x0 y = true from by unfold sR_ok; rw [inn_iff.mpr w0, inn_iff.mpr x0_0, inn_iff.mpr y0]; rfl), if_neg (by omega)]
  have hB := hX.iv.1
  refine CMW.mono (KH_rows l g hX row x0 y w0 x0_0 y0) ?_
  rintro v h' ⟨rfl, hX'⟩
  rw [h2, if_pos rfl]
  refine ⟨rfl, ?_⟩
  have e : sR_s σ row x0 y = su (su (su σ 6 row x0) 7 row y) 0 0 0 := by unfold sR_s; rw [h2, if_pos rfl, su_c0 _ (by decide), su_c0 _ (by decide)]
  rw [e] at hX'
  exact hX'.n0 (mb_su (mb_su hB (show (0 : Int) ≤ x0 ∧ x0 ≤ (10000 : Int) by omega)) (show (0 : Int) ≤ y ∧ y ≤ (10000 : Int) by omega))
set_option maxRecDepth 100000 in
theorem N_switch2 (l : Launch) (g : gT) (hX : SL g x h σ kf) (f : Int) (f0 : 0 ≤ f ∧ f ≤ 1) : CM l g yX4_switchFeed cX4_switchFeed 4 (some .int) { frames := 12, cells := 1, slots := 6, locals := 182 } [.ref x, .int (iI f)] h (fun v h1 => v = some (.int (iI (sm (dk (su σ 9 f (1 - σ 9 f))) (σ 17 0)))) ∧ SL g x h1 (su σ 9 f (1 - σ 9 f)) kf) noX := by
  have hB := hX.iv.1
  have h9 := hX.iv.off f0
  refine CM.mono (N_switchFeed l g hX f f0) ?_ (fun E h' z => z.elim)
  rintro v h' ⟨rfl, hX'⟩
  have eC : c01 (inn f 0 1) = 0 := c01_t (inn_iff.mpr f0)
  have e : wF_s σ f = su (su σ 9 f (1 - σ 9 f)) 0 0 0 := by unfold wF_s; rw [if_pos eC, eC, su_c0 _ (by decide)]
  rw [e] at hX'
  exact ⟨h', ⟨rfl, hX'.n0 (mb_su hB (show (0 : Int) ≤ 1 - σ 9 f ∧ 1 - σ 9 f ≤ (1 : Int) by omega))⟩, fun a e z => z⟩
/-- whether a machine that has just come is dark -/
theorem dark_new {σ' : sT} {k c : Int} (hc : 0 ≤ c ∧ c ≤ 2) (e : σ' 14 k = c) (h0 : σ' 9 0 = 0 ∨ σ' 9 0 = 1) (h1 : σ' 9 1 = 0 ∨ σ' 9 1 = 1) : m_dark σ' k = if c = 2 then (decide (σ' 9 0 = 1) && decide (σ' 9 1 = 1)) else decide (σ' 9 c = 1) := by
  unfold m_dark
  rw [e, cdd_0, cdd_1]
  rcases (show c = 0 ∨ c = 1 ∨ c = 2 by omega) with rfl | rfl | rfl <;> rcases h0 with a | a <;> rcases h1 with b | b <;> rw [a, b] <;> rfl
theorem dk_rng (σ : sT) (k : Int) : 0 ≤ dk σ k ∧ dk σ k ≤ 1 := by unfold dk; split <;> omega
theorem wsd_rng (h : IV σ) (t : Int) : 0 ≤ ws σ (dk σ) t ∧ ws σ (dk σ) t ≤ sm (dk σ) (σ 17 0) ∧ sm (dk σ) (σ 17 0) ≤ 60 := by
  have hm := mb_nm h.1
  have h1 := sm_le (f := fun k => if m_way σ k < t then dk σ k else 0) (a := 0) (b := 1) hm.1 (fun k a b => by
    have := dk_rng σ k
    show 0 ≤ (if m_way σ k < t then dk σ k else 0) ∧ (if m_way σ k < t then dk σ k else 0) ≤ 1
    split <;> omega)
  have h2 := sm_le (f := dk σ) (a := 0) (b := 1) hm.1 (fun k a b => dk_rng σ k)
  have h3 := sm_mono (f := fun k => if m_way σ k < t then dk σ k else 0) (g := dk σ) hm.1 (fun k a b => by
    have := dk_rng σ k
    show (if m_way σ k < t then dk σ k else 0) ≤ dk σ k
    split <;> omega)
  have e : ws σ (dk σ) t = sm (fun k => if m_way σ k < t then dk σ k else 0) (σ 17 0) := rfl
  rw [e]
  omega
end DM
