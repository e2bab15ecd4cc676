/-! ===== the law: power now, the worst, heat ===== -/
section FM
variable {σ : sT}
theorem IV.off (h : IV σ) {f : Int} (hf : 0 ≤ f ∧ f ≤ 1) : σ 9 f = 0 ∨ σ 9 f = 1 := by
  have b : (0 : Int) ≤ σ 9 f ∧ σ 9 f ≤ 1 := h.1 9 f hf.1 (show f < (2 : Int) by omega)
  omega
theorem cdd_0 (c : Int) : cdd c 0 = (decide (c = 2) || decide (c = 0)) := rfl
theorem cdd_1 (c : Int) : cdd c 1 = (decide (c = 2) || decide (c = 1)) := rfl
theorem tk_all (h : IV σ) {k : Int} (h0 : 0 ≤ k) (h1 : k < σ 17 0) : (∀ f, 0 ≤ f → f ≤ 1 → 0 ≤ m_tk σ k f ∧ m_tk σ k f ≤ (if cdd (σ 14 k) f = true then σ 12 k else 0) ∧ (σ 9 f = 1 → m_tk σ k f = 0) ∧ (σ 9 f = 0 → σ 9 (1 - f) = 1 → m_tk σ k f = if cdd (σ 14 k) f = true then σ 12 k else 0)) ∧ m_tk σ k 0 + m_tk σ k 1 = (if m_dark σ k = false then σ 12 k else 0) ∧ (m_dark σ k = true → σ 9 0 = 1 ∨ σ 9 1 = 1) ∧ (σ 9 0 = 1 → σ 9 1 = 1 → m_dark σ k = true) := by
  have hk := h.mach h0 h1
  have hp := hk.2.2.2.2.2.2.2.2.1
  have hc := hk.2.2.2.2.2.2.2.2.2
  have a0 := h.off (f := 0) (by decide)
  have a1 := h.off (f := 1) (by decide)
  have e0 : ∀ f : Int, 0 ≤ f → f ≤ 1 → f = 0 ∨ f = 1 := fun f a b => by omega
  have n0 : (1 : Int) - 0 = 1 := rfl
  have n1 : (1 : Int) - 1 = 0 := rfl
  refine ⟨fun f f0 f1 => ?_, ?_, ?_, ?_⟩
  · rcases e0 f f0 f1 with rfl | rfl
    · unfold m_tk
      rw [cdd_0, n0]
      rcases (show σ 14 k = 0 ∨ σ 14 k = 1 ∨ σ 14 k = 2 by omega) with c | c | c <;> rcases a0 with a | a <;> rcases a1 with b | b <;> rw [c, a, b] <;> simp <;> omega
    · unfold m_tk
      rw [cdd_1, n1]
      rcases (show σ 14 k = 0 ∨ σ 14 k = 1 ∨ σ 14 k = 2 by omega) with c | c | c <;> rcases a0 with a | a <;> rcases a1 with b | b <;> rw [c, a, b] <;> simp <;> omega
  · unfold m_tk m_dark
    rw [cdd_0, cdd_1, n0, n1]
    rcases (show σ 14 k = 0 ∨ σ 14 k = 1 ∨ σ 14 k = 2 by omega) with c | c | c <;> rcases a0 with a | a <;> rcases a1 with b | b <;> rw [c, a, b] <;> simp <;> omega
  · unfold m_dark
    rw [cdd_0, cdd_1]
    rcases (show σ 14 k = 0 ∨ σ 14 k = 1 ∨ σ 14 k = 2 by omega) with c | c | c <;> rcases a0 with a | a <;> rcases a1 with b | b <;> rw [c, a, b] <;> simp
  · unfold m_dark
    rw [cdd_0, cdd_1]
    intro a b
    rw [a, b]
    simp
theorem pw_le (h : IV σ) {r f : Int} (r0 : 0 ≤ r) (hf : 0 ≤ f ∧ f ≤ 1) : 0 ≤ PW σ r f ∧ PW σ r f ≤ m_worst σ r f := by
  have hm := mb_nm h.1
  constructor
  · have := sm_le (f := pwt σ r f) (a := 0) (b := 2000) hm.1 (fun k a b => by
      have c := (tk_all h a b).1 f hf.1 hf.2
      have d := (h.mach a b).2.2.2.2.2.2.2.2.1
      unfold pwt
      split
      · have e : (if cdd (σ 14 k) f = true then σ 12 k else 0) ≤ 2000 := by split <;> omega
        omega
      · omega)
    unfold PW; omega
  · refine sm_mono hm.1 (fun k a b => ?_)
    have c := (tk_all h a b).1 f hf.1 hf.2
    rw [wo_r r0]
    unfold pwt
    by_cases z : σ 15 k = r
    · rw [if_pos z, if_pos z]; exact c.2.1
    · rw [if_neg z, if_neg z]; exact Int.le_refl _
theorem pw_off (h : IV σ) {r f : Int} (hf : 0 ≤ f ∧ f ≤ 1) (ho : σ 9 f = 1) : PW σ r f = 0 := by
  have hm := mb_nm h.1
  unfold PW
  rw [sm_cong (g := fun _ => 0) hm.1 (fun k a b => ?_), sm_zero hm.1]
  have c := (tk_all h a b).1 f hf.1 hf.2
  unfold pwt
  split
  · exact c.2.2.1 ho
  · rfl
theorem pw_on (h : IV σ) {r f : Int} (r0 : 0 ≤ r) (hf : 0 ≤ f ∧ f ≤ 1) (ho : ¬ σ 9 f = 1) (hq : σ 9 (1 - f) = 1) : PW σ r f = m_worst σ r f := by
  have hm := mb_nm h.1
  have h9 := h.off hf
  refine sm_cong hm.1 (fun k a b => ?_)
  have c := (tk_all h a b).1 f hf.1 hf.2
  rw [wo_r r0]
  unfold pwt
  by_cases z : σ 15 k = r
  · rw [if_pos z, if_pos z]; exact c.2.2.2 (by omega) hq
  · rw [if_neg z, if_neg z]
/-- the power of the racks below r, the worst of them -/
def NW (σ : sT) (r : Int) : Int := sm (fun R => PW σ R 0 + PW σ R 1) r
def WW (σ : sT) (r : Int) : Int := sm (fun R => m_worst σ R 0 + m_worst σ R 1) r
theorem sm_2 (f : Int → Int) : sm f 2 = f 0 + f 1 := by
  show (0 : Int) + f ((0 : Nat) : Int) + f ((1 : Nat) : Int) = _
  rw [Int.zero_add]
  rfl
theorem nw_s (σ : sT) {r : Int} (r0 : 0 ≤ r) : NW σ (r + 1) = NW σ r + sm (fun f => PW σ r f) 2 := by
  unfold NW
  rw [sm_s _ r0, sm_2]
theorem ww_s (σ : sT) {r : Int} (r0 : 0 ≤ r) : WW σ (r + 1) = WW σ r + sm (fun f => m_worst σ r f) 2 := by
  unfold WW
  rw [sm_s _ r0, sm_2]
theorem nw_rng (h : IV σ) {r : Int} (r0 : 0 ≤ r ∧ r ≤ 8) : 0 ≤ NW σ r ∧ NW σ r ≤ 1920000 := by
  have := sm_le (f := fun R => PW σ R 0 + PW σ R 1) (a := 0) (b := 240000) r0.1 (fun k a b => by
    have c := pw_le h (r := k) (f := 0) a (by decide)
    have d := pw_le h (r := k) (f := 1) a (by decide)
    have e := m_worst_rng h.1 k 0
    have f := m_worst_rng h.1 k 1
    show 0 ≤ PW σ k 0 + PW σ k 1 ∧ PW σ k 0 + PW σ k 1 ≤ 240000
    omega)
  unfold NW; omega
theorem ww_rng (h : IV σ) {r : Int} (r0 : 0 ≤ r ∧ r ≤ 8) : 0 ≤ WW σ r ∧ WW σ r ≤ 1920000 := by
  have := sm_le (f := fun R => m_worst σ R 0 + m_worst σ R 1) (a := 0) (b := 240000) r0.1 (fun k a b => by
    have e := m_worst_rng h.1 k 0
    have f := m_worst_rng h.1 k 1
    show 0 ≤ m_worst σ k 0 + m_worst σ k 1 ∧ m_worst σ k 0 + m_worst σ k 1 ≤ 240000
    omega)
  unfold WW; omega
theorem nw_ww (h : IV σ) {r : Int} (r0 : 0 ≤ r) : NW σ r ≤ WW σ r := sm_mono r0 (fun k a b => by
  have c := pw_le h (r := k) (f := 0) a (by decide)
  have d := pw_le h (r := k) (f := 1) a (by decide)
  show PW σ k 0 + PW σ k 1 ≤ m_worst σ k 0 + m_worst σ k 1
  omega)
theorem nw_off (h : IV σ) {r : Int} (r0 : 0 ≤ r) (a : σ 9 0 = 1) (b : σ 9 1 = 1) : NW σ r = 0 := by
  unfold NW
  rw [sm_cong (g := fun _ => 0) r0 (fun k c d => ?_), sm_zero r0]
  show PW σ k 0 + PW σ k 1 = 0
  rw [pw_off h (by decide) a, pw_off h (by decide) b]
  rfl
theorem ho_rng (h : IV σ) (row : Int) : 0 ≤ HO σ row ∧ HO σ row ≤ 120000 := by
  have hm := mb_nm h.1
  have := sm_le (f := hO_t σ row) (a := 0) (b := 2000) hm.1 (fun k a b => by
    have d := (h.mach a b).2.2.2.2.2.2.2.2.1
    unfold hO_t
    split <;> omega)
  unfold HO; omega
theorem hs_rng (h : IV σ) {row : Int} (r0 : 0 ≤ row ∧ row ≤ 4) : 0 ≤ sm (fun w => HO σ w) row ∧ sm (fun w => HO σ w) row ≤ 480000 := by
  have := sm_le (f := fun w => HO σ w) (a := 0) (b := 120000) r0.1 (fun k a b => ho_rng h k)
  omega
/-- the heat of all rows is the power of all racks -/
theorem heat_now (h : IV σ) : sm (fun w => HO σ w) 4 = NW σ (σ 5 0) := by
  have hm := mb_nm h.1
  have hn := mb_nr h.1
  have row : ∀ k, 0 ≤ k → k < σ 17 0 → 0 ≤ σ 1 (σ 15 k) ∧ σ 1 (σ 15 k) < 4 := fun k a b => by
    have c := h.mach a b
    have d : (0 : Int) ≤ σ 1 (σ 15 k) ∧ σ 1 (σ 15 k) ≤ 3 := h.1 1 (σ 15 k) c.1.1 (show σ 15 k < (8 : Int) by omega)
    omega
  have e1 := exch (fun k => σ 1 (σ 15 k)) (fun k => if m_dark σ k = false then σ 12 k else 0) (fun _ => true) (n := 4) (m := σ 17 0) (by decide) hm.1
  have e2 := exch (fun k => σ 15 k) (fun k => if m_dark σ k = false then σ 12 k else 0) (fun _ => true) (n := σ 5 0) (m := σ 17 0) hn.1 hm.1
  have l1 : sm (fun w => HO σ w) 4 = sm (fun R => if (fun _ : Int => true) R = true then sm (fun k => if (fun k => σ 1 (σ 15 k)) k = R then (fun k => if m_dark σ k = false then σ 12 k else 0) k else 0) (σ 17 0) else 0) 4 := by
    refine sm_cong (by decide) (fun R a b => ?_)
    rw [if_pos rfl]
    refine sm_cong hm.1 (fun k c d => ?_)
    show hO_t σ R k = if σ 1 (σ 15 k) = R then (if m_dark σ k = false then σ 12 k else 0) else 0
    unfold hO_t
    by_cases z : σ 1 (σ 15 k) = R
    · rw [if_pos z]
      by_cases y : m_dark σ k = false
      · rw [if_pos ⟨z, y⟩, if_pos y]
      · rw [if_neg (fun x => y x.2), if_neg y]
    · rw [if_neg z, if_neg (fun x => z x.1)]
  have l2 : NW σ (σ 5 0) = sm (fun R => if (fun _ : Int => true) R = true then sm (fun k => if (fun k => σ 15 k) k = R then (fun k => if m_dark σ k = false then σ 12 k else 0) k else 0) (σ 17 0) else 0) (σ 5 0) := by
    refine sm_cong hn.1 (fun R a b => ?_)
    rw [if_pos rfl]
    show sm (pwt σ R 0) (σ 17 0) + sm (pwt σ R 1) (σ 17 0) = _
    rw [← sm_add _ _ hm.1]
    refine sm_cong hm.1 (fun k c d => ?_)
    show pwt σ R 0 k + pwt σ R 1 k = if σ 15 k = R then (if m_dark σ k = false then σ 12 k else 0) else 0
    have t := (tk_all h c d).2.1
    unfold pwt
    by_cases z : σ 15 k = R
    · rw [if_pos z, if_pos z, if_pos z]; exact t
    · rw [if_neg z, if_neg z, if_neg z]; rfl
  rw [l1, l2, e1, e2]
  refine sm_cong hm.1 (fun k a b => ?_)
  have c := h.mach a b
  have d := row k a b
  rw [if_pos (show 0 ≤ σ 1 (σ 15 k) ∧ σ 1 (σ 15 k) < 4 ∧ true = true from ⟨d.1, d.2, rfl⟩), if_pos (show 0 ≤ σ 15 k ∧ σ 15 k < σ 5 0 ∧ true = true from ⟨c.1.1, c.1.2, rfl⟩)]
end FM
