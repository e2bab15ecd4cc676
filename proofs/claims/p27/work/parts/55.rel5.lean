/-! ===== class and reference: a machine goes, other cords, one more, one less ===== -/
theorem cClr_1 {τ : sT} {w m : Nat} : cClr τ w m (w + 1) = cFl (τ (w + 1)) (τ 35 m) (τ 31 m) (-1) := by
  unfold cClr; rw [cAdd_1, sf_s]
theorem cClr_2 {τ : sT} {w m : Nat} (hw : w = 5 ∨ w = 12) : cClr τ w m (w + 2) = iup (τ (w + 2)) (τ 35 m / 20) (τ (w + 2) (τ 35 m / 20) + -1 * τ 33 m) := by
  unfold cClr; rw [cAdd_2, sf_n (by omega), sf_m hw (by omega)]
theorem cClr_3 {τ : sT} {w m : Nat} (hw : w = 5 ∨ w = 12) : cClr τ w m (w + 3) = iup (τ (w + 3)) (τ 35 m / 20) (τ (w + 3) (τ 35 m / 20) + -1 * τ 32 m) := by
  unfold cClr; rw [cAdd_3, sf_n (by omega), sf_m hw (by omega)]
theorem cClr_5 {τ : sT} {w m : Nat} (hw : w = 5 ∨ w = 12) : cClr τ w m (w + 5) = iup (τ (w + 5)) (τ 35 m / 20) (τ (w + 5) (τ 35 m / 20) + -1 * m_pw (τ 34 m) 0 (τ 32 m)) := by
  unfold cClr; rw [cAdd_5, sf_n (by omega), sf_m hw (by omega), sf_m hw (by omega)]
theorem cClr_6 {τ : sT} {w m : Nat} (hw : w = 5 ∨ w = 12) : cClr τ w m (w + 6) = iup (τ (w + 6)) (τ 35 m / 20) (τ (w + 6) (τ 35 m / 20) + -1 * m_pw (τ 34 m) 1 (τ 32 m)) := by
  unfold cClr; rw [cAdd_6, sf_n (by omega), sf_m hw (by omega), sf_m hw (by omega)]
section UP
variable {σ : sT} {k : Int}
theorem we_un (h0 : 0 ≤ k) (h1 : k < σ 17 0) {x : Int} (hx : 0 ≤ x) : m_weighs (su σ 15 k (-1)) x = m_weighs σ x + -1 * if σ 15 k = x then σ 13 k else 0 := by
  unfold m_weighs
  rw [su_n (f' := 17) (by decide), sm_upd (f := m_we (su σ 15 k (-1)) x) (g := m_we σ x) h0 h1 (fun j hj => by unfold m_we; rw [su_s, su_n (f' := 13) (by decide), iup_n hj])]
  congr 1
  unfold m_we
  rw [su_s, su_n (f' := 13) (by decide), iup_s, if_neg (show ¬ (-1 : Int) = x by omega)]
  omega
theorem hh_un (h0 : 0 ≤ k) (h1 : k < σ 17 0) {x : Int} (hx : 0 ≤ x) : m_hts (su σ 15 k (-1)) x = m_hts σ x + -1 * if σ 15 k = x then σ 12 k else 0 := by
  unfold m_hts
  rw [su_n (f' := 17) (by decide), sm_upd (f := m_hh (su σ 15 k (-1)) x) (g := m_hh σ x) h0 h1 (fun j hj => by unfold m_hh; rw [su_s, su_n (f' := 12) (by decide), iup_n hj])]
  congr 1
  unfold m_hh
  rw [su_s, su_n (f' := 12) (by decide), iup_s, if_neg (show ¬ (-1 : Int) = x by omega)]
  omega
theorem wo_un (h0 : 0 ≤ k) (h1 : k < σ 17 0) {x f : Int} (hx : 0 ≤ x) : m_worst (su σ 15 k (-1)) x f = m_worst σ x f + -1 * if σ 15 k = x then m_pw (σ 14 k) f (σ 12 k) else 0 := by
  unfold m_worst
  rw [su_n (f' := 17) (by decide), sm_upd (f := m_wo (su σ 15 k (-1)) x f) (g := m_wo σ x f) h0 h1 (fun j hj => by rw [wo_r hx, wo_r hx, su_s, su_n (f' := 12) (by decide), su_n (f' := 14) (by decide), iup_n hj])]
  congr 1
  rw [wo_r hx, wo_r hx, su_s, su_n (f' := 12) (by decide), su_n (f' := 14) (by decide), iup_s, if_neg (show ¬ (-1 : Int) = x by omega)]
  unfold m_pw
  omega
theorem wo_cd (h0 : 0 ≤ k) (h1 : k < σ 17 0) {x f c : Int} (hx : 0 ≤ x) : m_worst (su σ 14 k c) x f = m_worst σ x f + if σ 15 k = x then m_pw c f (σ 12 k) - m_pw (σ 14 k) f (σ 12 k) else 0 := by
  unfold m_worst
  rw [su_n (f' := 17) (by decide), sm_upd (f := m_wo (su σ 14 k c) x f) (g := m_wo σ x f) h0 h1 (fun j hj => by rw [wo_r hx, wo_r hx, su_s, su_n (f' := 12) (by decide), su_n (f' := 15) (by decide), iup_n hj])]
  congr 1
  rw [wo_r hx, wo_r hx, su_s, su_n (f' := 12) (by decide), su_n (f' := 15) (by decide), iup_s]
  unfold m_pw
  by_cases q : σ 15 k = x
  · rw [if_pos q, if_pos q, if_pos q]
  · rw [if_neg q, if_neg q, if_neg q]; omega
theorem wo_cda (h0 : 0 ≤ k) (h1 : k < σ 17 0) (hp : σ 15 k ≠ -1) {f c : Int} : m_worst (su σ 14 k c) (-1) f = m_worst σ (-1) f + (m_pw c f (σ 12 k) - m_pw (σ 14 k) f (σ 12 k)) := by
  unfold m_worst
  rw [su_n (f' := 17) (by decide), sm_upd (f := m_wo (su σ 14 k c) (-1) f) (g := m_wo σ (-1) f) h0 h1 (fun j hj => by unfold m_wo; rw [su_s, su_n (f' := 12) (by decide), su_n (f' := 15) (by decide), iup_n hj])]
  congr 1
  unfold m_wo m_pw
  rw [su_s, su_n (f' := 12) (by decide), su_n (f' := 15) (by decide), iup_s]
  by_cases c1 : cdd c f = true
  · by_cases c2 : cdd (σ 14 k) f = true
    · rw [if_pos ⟨hp, Or.inl rfl, c1⟩, if_pos ⟨hp, Or.inl rfl, c2⟩, if_pos c1, if_pos c2]
    · rw [if_pos ⟨hp, Or.inl rfl, c1⟩, if_neg (fun z => c2 z.2.2), if_pos c1, if_neg c2]
  · by_cases c2 : cdd (σ 14 k) f = true
    · rw [if_neg (fun z => c1 z.2.2), if_pos ⟨hp, Or.inl rfl, c2⟩, if_neg c1, if_pos c2]
    · rw [if_neg (fun z => c1 z.2.2), if_neg (fun z => c2 z.2.2), if_neg c1, if_neg c2]
end UP
theorem lr_unput {τ σ : sT} {w m : Nat} {k : Int} (hw : w = 5 ∨ w = 12) (hB : MB σ) (hN : NO σ) (hL : LR τ w σ) (h0 : 0 ≤ k) (h1 : k < σ 17 0) (hR : 0 ≤ σ 15 k ∧ σ 15 k < 8) (hS : 0 ≤ σ 16 k ∧ 1 ≤ σ 11 k ∧ σ 16 k + σ 11 k ≤ 20) (hc : τ 35 m = σ 15 k * 20 + σ 16 k)
    (hm : τ 31 m = σ 11 k ∧ τ 32 m = σ 12 k ∧ τ 33 m = σ 13 k ∧ τ 34 m = σ 14 k) : LR (cClr τ w m) w (su σ 15 k (-1)) := by
  have e0 : τ 35 m / 20 = σ 15 k := by rw [hc]; omega
  have hmm := mb_nm hB
  refine ⟨fun x a b => ?_, fun x s a b c d => ?_⟩
  · have hl := hL.1 x a b
    rw [cClr_2 hw, cClr_3 hw, cClr_5 hw, cClr_6 hw, we_un h0 h1 a, hh_un h0 h1 a, wo_un h0 h1 a, wo_un h0 h1 a, iup_if, iup_if, iup_if, iup_if, hm.2.1, hm.2.2.1, hm.2.2.2, e0, ← hl.1, ← hl.2.1, ← hl.2.2.1, ← hl.2.2.2]
    by_cases e : x = σ 15 k
    · subst e
      rw [if_pos rfl, if_pos rfl, if_pos rfl, if_pos rfl, if_pos rfl, if_pos rfl, if_pos rfl, if_pos rfl]
      exact ⟨rfl, rfl, rfl, rfl⟩
    · rw [if_neg e, if_neg e, if_neg e, if_neg e, if_neg (Ne.symm e), if_neg (Ne.symm e), if_neg (Ne.symm e), if_neg (Ne.symm e)]
      omega
  · rw [cClr_1, hm.1, hc, su_n (f' := 10) (by decide)]
    by_cases e : x = σ 15 k ∧ σ 16 k ≤ s ∧ s < σ 16 k + σ 11 k
    · obtain ⟨e3, e1, e2⟩ := e
      have en : m_inSlot (su σ 15 k (-1)) x s = -1 := by
        unfold m_inSlot
        rw [su_n (f' := 17) (by decide)]
        refine ff_none (fun j ja jb => ?_)
        cases hq : m_ins (su σ 15 k (-1)) x s j with
        | false => rfl
        | true =>
          have q := ins_iff.mp hq
          rw [su_s, su_n (f' := 16) (by decide), su_n (f' := 11) (by decide)] at q
          by_cases jk : j = k
          · subst jk; rw [iup_s] at q; omega
          · rw [iup_n jk] at q
            rcases hN j k ja jb h0 h1 jk (by omega) (by omega) with z | z <;> omega
      rw [cFl_in (by omega), en, if_pos rfl]
    · have en : m_inSlot (su σ 15 k (-1)) x s = m_inSlot σ x s := by
        unfold m_inSlot
        rw [su_n (f' := 17) (by decide)]
        refine ff_cong hmm.1 (fun j ja jb => ?_)
        unfold m_ins
        rw [su_s, su_n (f' := 16) (by decide), su_n (f' := 11) (by decide)]
        by_cases jk : j = k
        · subst jk
          rw [iup_s, decide_eq_false (show ¬ (-1 : Int) = x by omega)]
          by_cases y : σ 15 j = x
          · by_cases z : σ 16 j ≤ s
            · rw [decide_eq_false (show ¬ s < σ 16 j + σ 11 j from fun u => e ⟨y.symm, z, u⟩)]; simp
            · rw [decide_eq_false z]; simp
          · rw [decide_eq_false y]
        · rw [iup_n jk]
      rw [cFl_out (by omega), en]
      exact hL.2 x s a b c d
theorem lr_cord {τ σ : sT} {w m : Nat} {k c : Int} (hw : w = 5 ∨ w = 12) (hL : LR τ w σ) (h0 : 0 ≤ k) (h1 : k < σ 17 0) (hS : 0 ≤ σ 15 k ∧ σ 15 k < 8 ∧ 0 ≤ σ 16 k ∧ σ 16 k < 20) (hc : τ 35 m = σ 15 k * 20 + σ 16 k) (hm : τ 32 m = σ 12 k ∧ τ 34 m = σ 14 k) : LR (cCC τ w m c) w (su σ 14 k c) := by
  have e0 : τ 35 m / 20 = σ 15 k := by rw [hc]; omega
  have ew : ∀ x, m_weighs (su σ 14 k c) x = m_weighs σ x := fun x => rfl
  have eh : ∀ x, m_hts (su σ 14 k c) x = m_hts σ x := fun x => rfl
  have ei : ∀ x s, m_inSlot (su σ 14 k c) x s = m_inSlot σ x s := fun x s => rfl
  have c1 : cCC τ w m c (w + 1) = τ (w + 1) := by unfold cCC; rw [su_n (by omega), su_n (by omega), su_n (by omega)]
  have c2 : cCC τ w m c (w + 2) = τ (w + 2) := by unfold cCC; rw [su_n (by omega), su_n (by omega), su_n (by omega)]
  have c3 : cCC τ w m c (w + 3) = τ (w + 3) := by unfold cCC; rw [su_n (by omega), su_n (by omega), su_n (by omega)]
  have c5 : cCC τ w m c (w + 5) = iup (τ (w + 5)) (τ 35 m / 20) (τ (w + 5) (τ 35 m / 20) + (m_pw c 0 (τ 32 m) - m_pw (τ 34 m) 0 (τ 32 m))) := by unfold cCC; rw [su_n (by omega), su_n (by omega), su_s]
  have c6 : cCC τ w m c (w + 6) = iup (τ (w + 6)) (τ 35 m / 20) (τ (w + 6) (τ 35 m / 20) + (m_pw c 1 (τ 32 m) - m_pw (τ 34 m) 1 (τ 32 m))) := by unfold cCC; rw [su_n (by omega), su_s, su_n (by omega)]
  refine ⟨fun x a b => ?_, fun x s a b d1 d2 => ?_⟩
  · have hl := hL.1 x a b
    rw [c2, c3, c5, c6, ew, eh, wo_cd h0 h1 a, wo_cd h0 h1 a, iup_if, iup_if, e0, hm.1, hm.2, ← hl.2.2.1, ← hl.2.2.2]
    refine ⟨hl.1, hl.2.1, ?_⟩
    by_cases e : x = σ 15 k
    · subst e
      rw [if_pos rfl, if_pos rfl, if_pos rfl, if_pos rfl]
      exact ⟨rfl, rfl⟩
    · rw [if_neg e, if_neg e, if_neg (Ne.symm e), if_neg (Ne.symm e)]
      omega
  · rw [c1, ei]
    exact hL.2 x s a b d1 d2
/-- one machine more, in no rack -/
theorem lr_grow {τ σ σ' : sT} {w : Nat} (hB : MB σ) (hL : LR τ w σ) (e17 : σ' 17 0 = σ 17 0 + 1) (hj : ∀ f j, 10 ≤ f → f ≤ 16 → 0 ≤ j → j < σ 17 0 → σ' f j = σ f j) (hu : σ' 15 (σ 17 0) = -1) : LR τ w σ' := by
  have hm := mb_nm hB
  have ff1 : ∀ (p : Int → Bool) {n : Int}, 0 ≤ n → p n = false → ff p (n + 1) = ff p n := fun p n hn hp => by
    rcases ff_cases p hn with a | a
    · rw [a.1]
      exact ff_none (fun j b c => by by_cases z : j = n; rw [z]; exact hp; exact a.2 j b (by omega))
    · exact ff_at a.1 (by omega) a.2.2.1 a.2.2.2
  refine ⟨fun x a b => ?_, fun x s a b c d => ?_⟩
  · have hl := hL.1 x a b
    have k1 : m_weighs σ' x = m_weighs σ x := by
      unfold m_weighs
      rw [e17, sm_s _ hm.1, show m_we σ' x (σ 17 0) = 0 by unfold m_we; rw [hu, if_neg (by omega)], Int.add_zero]
      exact sm_cong hm.1 (fun j p q => by unfold m_we; rw [hj 15 j (by decide) (by decide) p q, hj 13 j (by decide) (by decide) p q])
    have k2 : m_hts σ' x = m_hts σ x := by
      unfold m_hts
      rw [e17, sm_s _ hm.1, show m_hh σ' x (σ 17 0) = 0 by unfold m_hh; rw [hu, if_neg (by omega)], Int.add_zero]
      exact sm_cong hm.1 (fun j p q => by unfold m_hh; rw [hj 15 j (by decide) (by decide) p q, hj 12 j (by decide) (by decide) p q])
    have k3 : ∀ f, m_worst σ' x f = m_worst σ x f := fun f => by
      unfold m_worst
      rw [e17, sm_s _ hm.1, show m_wo σ' x f (σ 17 0) = 0 by rw [wo_r a, hu, if_neg (by omega)], Int.add_zero]
      exact sm_cong hm.1 (fun j p q => by rw [wo_r a, wo_r a, hj 15 j (by decide) (by decide) p q, hj 12 j (by decide) (by decide) p q, hj 14 j (by decide) (by decide) p q])
    rw [k1, k2, k3, k3]; exact hl
  · have k4 : m_inSlot σ' x s = m_inSlot σ x s := by
      unfold m_inSlot
      rw [e17, ff1 _ hm.1 (by unfold m_ins; rw [hu, decide_eq_false (show ¬ (-1 : Int) = x by omega)]; rfl)]
      exact ff_cong hm.1 (fun j p q => by unfold m_ins; rw [hj 15 j (by decide) (by decide) p q, hj 16 j (by decide) (by decide) p q, hj 11 j (by decide) (by decide) p q])
    rw [k4]
    have h10 : m_inSlot σ x s ≠ -1 → σ' 10 (m_inSlot σ x s) = σ 10 (m_inSlot σ x s) := fun z => by
      rcases inSlot_cases hB x s with q | q
      · exact absurd q.1 z
      · exact hj 10 _ (by decide) (by decide) q.1 q.2.1
    rw [hL.2 x s a b c d]
    by_cases z : m_inSlot σ x s = -1
    · rw [if_pos z, if_pos z]
    · rw [if_neg z, if_neg z, h10 z]
/-- one machine less: it is in no rack any more -/
theorem sm_skip {F : Int → Int} {a : Int} (ha : 0 ≤ a) (hF : F a = 0) {t : Int} (ht : a ≤ t) : sm (fun j => F (if j < a then j else j + 1)) t = sm F (t + 1) := by
  have key : ∀ d : Int, 0 ≤ d → sm (fun j => F (if j < a then j else j + 1)) (a + d) = sm F (a + d + 1) := by
    intro d hd
    refine sm_ind (p := fun d => sm (fun j => F (if j < a then j else j + 1)) (a + d) = sm F (a + d + 1)) d ?_ (fun k h0 _ hk => ?_) hd
    · rw [Int.add_zero, sm_s _ ha, hF, Int.add_zero]
      exact sm_cong ha (fun j p q => by rw [if_pos q])
    · rw [show a + (k + 1) = a + k + 1 by omega, sm_s _ (by omega), hk, sm_s F (k := a + k + 1) (by omega), if_neg (by omega)]
  have := key (t - a) (by omega)
  rw [show a + (t - a) = t by omega] at this
  exact this
theorem lr_less {τ σ σ' : sT} {w : Nat} {a : Int} (hB : MB σ) (hB' : MB σ') (hN' : NO σ') (hL : LR τ w σ) (h0 : 0 ≤ a) (h1 : a < σ 17 0) (e17 : σ' 17 0 = σ 17 0 - 1) (hj : ∀ f j, 10 ≤ f → f ≤ 16 → 0 ≤ j → j < σ 17 0 - 1 → σ' f j = σ f (if j < a then j else j + 1)) (hu : σ 15 a = -1) : LR τ w σ' := by
  have hm := mb_nm hB
  have sk : ∀ (F G : Int → Int), F a = 0 → (∀ j, 0 ≤ j → j < σ 17 0 - 1 → G j = F (if j < a then j else j + 1)) → sm G (σ 17 0 - 1) = sm F (σ 17 0) := fun F G hF hG => by
    rw [sm_cong (g := fun j => F (if j < a then j else j + 1)) (by omega) hG, sm_skip h0 hF (by omega), Int.sub_add_cancel]
  refine ⟨fun x p q => ?_, fun x s p q c d => ?_⟩
  · have hl := hL.1 x p q
    have k1 : m_weighs σ' x = m_weighs σ x := by
      unfold m_weighs
      rw [e17]
      exact sk (m_we σ x) _ (by unfold m_we; rw [hu, if_neg (by omega)]) (fun j u v => by unfold m_we; rw [hj 15 j (by decide) (by decide) u v, hj 13 j (by decide) (by decide) u v])
    have k2 : m_hts σ' x = m_hts σ x := by
      unfold m_hts
      rw [e17]
      exact sk (m_hh σ x) _ (by unfold m_hh; rw [hu, if_neg (by omega)]) (fun j u v => by unfold m_hh; rw [hj 15 j (by decide) (by decide) u v, hj 12 j (by decide) (by decide) u v])
    have k3 : ∀ f, m_worst σ' x f = m_worst σ x f := fun f => by
      unfold m_worst
      rw [e17]
      exact sk (m_wo σ x f) _ (by rw [wo_r p, hu, if_neg (by omega)]) (fun j u v => by rw [wo_r p, wo_r p, hj 15 j (by decide) (by decide) u v, hj 12 j (by decide) (by decide) u v, hj 14 j (by decide) (by decide) u v])
    rw [k1, k2, k3, k3]; exact hl
  · rw [hL.2 x s p q c d]
    rcases inSlot_cases hB x s with z | ⟨z0, z1, z2, z3, z4⟩
    · have : m_inSlot σ' x s = -1 := by
        rcases inSlot_cases hB' x s with y | ⟨y0, y1, y2, y3, y4⟩
        · exact y.1
        · exfalso
          rw [e17] at y1
          rw [hj 15 _ (by decide) (by decide) y0 y1] at y2
          rw [hj 16 _ (by decide) (by decide) y0 y1] at y3 y4
          rw [hj 11 _ (by decide) (by decide) y0 y1] at y4
          exact z.2 _ (by split <;> omega) (by split <;> omega) ⟨y2, y3, y4⟩
      rw [z.1, this, if_pos rfl, if_pos rfl]
    · generalize hk : m_inSlot σ x s = k at z0 z1 z2 z3 z4
      have hka : k ≠ a := fun y => by rw [y, hu] at z2; omega
      obtain ⟨k', k0, k1, k2⟩ : ∃ k', 0 ≤ k' ∧ k' < σ 17 0 - 1 ∧ (if k' < a then k' else k' + 1) = k := by
        by_cases y : k < a
        · exact ⟨k, z0, by omega, by rw [if_pos y]⟩
        · exact ⟨k - 1, by omega, by omega, by rw [if_neg (by omega)]; omega⟩
      have e1 : m_inSlot σ' x s = k' := by
        refine inSlot_at hB' hN' k0 (by omega) (by omega) ?_
        rw [hj 15 k' (by decide) (by decide) k0 k1, hj 16 k' (by decide) (by decide) k0 k1, hj 11 k' (by decide) (by decide) k0 k1, k2]
        exact ⟨z2, z3, z4⟩
      rw [e1, if_neg (by omega), if_neg (by omega), hj 10 k' (by decide) (by decide) k0 k1, k2]
