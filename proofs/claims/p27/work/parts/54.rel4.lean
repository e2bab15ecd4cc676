/-! ===== class and reference: a machine comes, a machine goes ===== -/
theorem LR_cong {τ σ σ' : sT} {w : Nat} (h : ∀ f, 10 ≤ f → f ≤ 17 → σ' f = σ f) (hL : LR τ w σ) : LR τ w σ' := by
  have e : ∀ k s, m_inSlot σ' k s = m_inSlot σ k s := fun k s => by
    unfold m_inSlot
    have : m_ins σ' k s = m_ins σ k s := by
      funext j
      unfold m_ins
      rw [h 15 (by decide) (by decide), h 16 (by decide) (by decide), h 11 (by decide) (by decide)]
    rw [this, h 17 (by decide) (by decide)]
  have ew : ∀ k, m_weighs σ' k = m_weighs σ k := fun k => by
    unfold m_weighs
    have : m_we σ' k = m_we σ k := by
      funext j
      unfold m_we
      rw [h 15 (by decide) (by decide), h 13 (by decide) (by decide)]
    rw [this, h 17 (by decide) (by decide)]
  have eh : ∀ k, m_hts σ' k = m_hts σ k := fun k => by
    unfold m_hts
    have : m_hh σ' k = m_hh σ k := by
      funext j
      unfold m_hh
      rw [h 15 (by decide) (by decide), h 12 (by decide) (by decide)]
    rw [this, h 17 (by decide) (by decide)]
  have eo : ∀ k f, m_worst σ' k f = m_worst σ k f := fun k f => by
    unfold m_worst
    have : m_wo σ' k f = m_wo σ k f := by
      funext j
      unfold m_wo
      rw [h 15 (by decide) (by decide), h 12 (by decide) (by decide), h 14 (by decide) (by decide)]
    rw [this, h 17 (by decide) (by decide)]
  refine ⟨fun k a b => ?_, fun k s a b c d => ?_⟩
  · rw [ew, eh, eo, eo]; exact hL.1 k a b
  · rw [e, h 10 (by decide) (by decide)]; exact hL.2 k s a b c d
theorem cFl_in {F : Int → Int} {lo n v z : Int} (h : lo ≤ z ∧ z < lo + n) : cFl F lo n v z = v := if_pos h
theorem cFl_out {F : Int → Int} {lo n v z : Int} (h : ¬ (lo ≤ z ∧ z < lo + n)) : cFl F lo n v z = F z := if_neg h
theorem iup_if {F : Int → Int} {k v j : Int} : iup F k v j = if j = k then v else F j := rfl
section SP
variable {σ : sT} {k R S : Int}
/-- machine k in rack R from slot S -/
def m_at (σ : sT) (k R S : Int) : sT := su (su σ 15 k R) 16 k S
theorem m_at15 : m_at σ k R S 15 = iup (σ 15) k R := by unfold m_at; rw [su_n (by decide), su_s]
theorem m_at16 : m_at σ k R S 16 = iup (σ 16) k S := by unfold m_at; rw [su_s, su_n (by decide)]
theorem m_at_n {f : Nat} (h : f ≠ 15 ∧ f ≠ 16) : m_at σ k R S f = σ f := by unfold m_at; rw [su_n h.2, su_n h.1]
theorem we_at (h0 : 0 ≤ k) (h1 : k < σ 17 0) (hu : σ 15 k = -1) {x : Int} (hx : 0 ≤ x) : m_weighs (m_at σ k R S) x = m_weighs σ x + if R = x then σ 13 k else 0 := by
  unfold m_weighs
  rw [m_at_n (f := 17) (by decide), sm_upd (f := m_we (m_at σ k R S) x) (g := m_we σ x) h0 h1 (fun j hj => by unfold m_we; rw [m_at15, m_at_n (f := 13) (by decide), iup_n hj])]
  congr 1
  unfold m_we
  rw [m_at15, m_at_n (f := 13) (by decide), iup_s, hu, if_neg (show ¬ (-1 : Int) = x by omega)]
  omega
theorem hh_at (h0 : 0 ≤ k) (h1 : k < σ 17 0) (hu : σ 15 k = -1) {x : Int} (hx : 0 ≤ x) : m_hts (m_at σ k R S) x = m_hts σ x + if R = x then σ 12 k else 0 := by
  unfold m_hts
  rw [m_at_n (f := 17) (by decide), sm_upd (f := m_hh (m_at σ k R S) x) (g := m_hh σ x) h0 h1 (fun j hj => by unfold m_hh; rw [m_at15, m_at_n (f := 12) (by decide), iup_n hj])]
  congr 1
  unfold m_hh
  rw [m_at15, m_at_n (f := 12) (by decide), iup_s, hu, if_neg (show ¬ (-1 : Int) = x by omega)]
  omega
theorem wo_at (h0 : 0 ≤ k) (h1 : k < σ 17 0) (hu : σ 15 k = -1) {x f : Int} (hx : 0 ≤ x) : m_worst (m_at σ k R S) x f = m_worst σ x f + if R = x then m_pw (σ 14 k) f (σ 12 k) else 0 := by
  unfold m_worst
  rw [m_at_n (f := 17) (by decide), sm_upd (f := m_wo (m_at σ k R S) x f) (g := m_wo σ x f) h0 h1 (fun j hj => by rw [wo_r hx, wo_r hx, m_at15, m_at_n (f := 12) (by decide), m_at_n (f := 14) (by decide), iup_n hj])]
  congr 1
  rw [wo_r hx, wo_r hx, m_at15, m_at_n (f := 12) (by decide), m_at_n (f := 14) (by decide), iup_s, hu, if_neg (show ¬ (-1 : Int) = x by omega)]
  unfold m_pw
  omega
theorem ins_at_n (hu : σ 15 k = -1) {x s j : Int} (hx : 0 ≤ x) (hn : ¬ (x = R ∧ S ≤ s ∧ s < S + σ 11 k)) : m_ins (m_at σ k R S) x s j = m_ins σ x s j := by
  by_cases hj : j = k
  · subst hj
    have a : m_ins (m_at σ j R S) x s j = false := by
      cases h : m_ins (m_at σ j R S) x s j with
      | false => rfl
      | true =>
        have q := ins_iff.mp h
        rw [m_at15, m_at16, m_at_n (f := 11) (by decide), iup_s, iup_s] at q
        exact absurd ⟨q.1.symm, q.2⟩ hn
    have b : m_ins σ x s j = false := by
      cases h : m_ins σ x s j with
      | false => rfl
      | true => have q := ins_iff.mp h; omega
    rw [a, b]
  · unfold m_ins
    rw [m_at15, m_at16, m_at_n (f := 11) (by decide), iup_n hj, iup_n hj]
theorem inSlot_at_n (hB : MB σ) (hu : σ 15 k = -1) {x s : Int} (hx : 0 ≤ x) (hn : ¬ (x = R ∧ S ≤ s ∧ s < S + σ 11 k)) : m_inSlot (m_at σ k R S) x s = m_inSlot σ x s := by
  have hm := mb_nm hB
  unfold m_inSlot
  rw [m_at_n (f := 17) (by decide)]
  exact ff_cong hm.1 (fun j _ _ => ins_at_n hu hx hn)
theorem inSlot_at_y (hB : MB σ) (h0 : 0 ≤ k) (h1 : k < σ 17 0) (hu : σ 15 k = -1) (hR : 0 ≤ R) {s : Int} (hs : S ≤ s ∧ s < S + σ 11 k) (hf : m_inSlot σ R s = -1) : m_inSlot (m_at σ k R S) R s = k := by
  have hno := (inSlot_cases hB R s).resolve_right (fun z => by omega)
  unfold m_inSlot
  rw [m_at_n (f := 17) (by decide)]
  refine ff_at h0 h1 (ins_iff.mpr ?_) (fun j a b => ?_)
  · rw [m_at15, m_at16, m_at_n (f := 11) (by decide), iup_s, iup_s]; exact ⟨rfl, hs⟩
  · cases h : m_ins (m_at σ k R S) R s j with
    | false => rfl
    | true =>
      have q := ins_iff.mp h
      rw [m_at15, m_at16, m_at_n (f := 11) (by decide), iup_n (by omega), iup_n (by omega)] at q
      exact absurd q (hno.2 j a (by omega))
end SP
theorem lr_put {τ σ : sT} {w m : Nat} {k R S : Int} (hw : w = 5 ∨ w = 12) (hB : MB σ) (hL : LR τ w σ) (h0 : 0 ≤ k) (h1 : k < σ 17 0) (hu : σ 15 k = -1) (hR : 0 ≤ R ∧ R < 8) (hS : 0 ≤ S ∧ S + σ 11 k ≤ 20) (hf : ∀ s, S ≤ s → s < S + σ 11 k → m_inSlot σ R s = -1)
    (hm : τ 30 m = σ 10 k ∧ τ 31 m = σ 11 k ∧ τ 32 m = σ 12 k ∧ τ 33 m = σ 13 k ∧ τ 34 m = σ 14 k) (hs0 : 1 ≤ σ 11 k) : LR (cPut τ w m (R * 20 + S)) w (m_at σ k R S) := by
  have hsz := hS.2
  have hdiv : ∀ n : Int, 1 ≤ n → S + n ≤ 20 → (R * 20 + S) / 20 = R := fun n a b => by omega
  have hnum : (0 : Int) ≤ σ 10 k := (hB 10 k h0 (show k < (60 : Int) by have := mb_nm hB; omega)).1
  refine ⟨fun x a b => ?_, fun x s a b c d => ?_⟩
  · have hl := hL.1 x a b
    rw [cPut_2 hw, cPut_3 hw, cPut_5 hw, cPut_6 hw, we_at h0 h1 hu a, hh_at h0 h1 hu a, wo_at h0 h1 hu a, wo_at h0 h1 hu a, iup_if, iup_if, iup_if, iup_if, hm.2.2.1, hm.2.2.2.1, hm.2.2.2.2, ← hl.1, ← hl.2.1, ← hl.2.2.1, ← hl.2.2.2]
    have e0 : (R * 20 + S) / 20 = R := by omega
    rw [e0]
    by_cases e : x = R
    · subst e
      rw [if_pos rfl, if_pos rfl, if_pos rfl, if_pos rfl, if_pos rfl, if_pos rfl, if_pos rfl, if_pos rfl]
      exact ⟨rfl, rfl, rfl, rfl⟩
    · rw [if_neg e, if_neg e, if_neg e, if_neg e, if_neg (Ne.symm e), if_neg (Ne.symm e), if_neg (Ne.symm e), if_neg (Ne.symm e)]
      omega
  · rw [cPut_1, hm.1, hm.2.1, m_at_n (f := 10) (by decide)]
    by_cases e : x = R ∧ S ≤ s ∧ s < S + σ 11 k
    · obtain ⟨rfl, e1, e2⟩ := e
      rw [cFl_in (by omega), inSlot_at_y hB h0 h1 hu hR.1 ⟨e1, e2⟩ (hf s e1 e2), if_neg (by omega)]
    · rw [cFl_out (by omega), inSlot_at_n hB hu a e]
      exact hL.2 x s a b c d
