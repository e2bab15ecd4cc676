theorem m_free_eq {σ : sT} {r fr n s : Int} {b : Bool} (hn : 0 ≤ n) (hs : s ≤ fr + n) (hb : b = true ↔ (fr + n ≤ σ 2 r ∧ ∀ j, fr ≤ j → j < s → m_inSlot σ r j = -1)) (he : fr + n ≤ s ∨ b = false) : b = m_free σ r fr n := by
  have key : m_free σ r fr n = true ↔ (fr + n ≤ σ 2 r ∧ ∀ j, fr ≤ j → j < fr + n → m_inSlot σ r j = -1) := by
    unfold m_free
    rw [Bool.and_eq_true, decide_eq_true_eq, al_iff hn]
    constructor
    · rintro ⟨h1, h2⟩
      refine ⟨h1, fun j a c => ?_⟩
      have := h2 (j - fr) (by omega) (by omega)
      rw [decide_eq_true_eq, show fr + (j - fr) = j by omega] at this
      exact this
    · rintro ⟨h1, h2⟩
      refine ⟨h1, fun j a c => ?_⟩
      rw [decide_eq_true_eq]
      exact h2 (fr + j) (by omega) (by omega)
  rw [Bool.eq_iff_iff, key, hb]
  rcases he with h | h
  · rw [show s = fr + n by omega]
  · have h1 : ¬ (fr + n ≤ σ 2 r ∧ ∀ j, fr ≤ j → j < s → m_inSlot σ r j = -1) := fun q => by rw [hb.mpr q] at h; cases h
    exact ⟨fun q => absurd q h1, fun q => absurd ⟨q.1, fun j a c => q.2 j a (by omega)⟩ h1⟩
def m_b0 (σ : sT) (r p w : Int) : Bool := decide (m_weighs σ r + w ≤ σ 3 r) && decide (m_rowWeighs σ (σ 1 r) + w ≤ σ 7 (σ 1 r)) && decide (m_rowHeats σ (σ 1 r) + p ≤ σ 6 (σ 1 r))
theorem m_pw_rng (c f : Int) {p : Int} (hp : 0 ≤ p ∧ p ≤ 100000) : 0 ≤ m_pw c f p ∧ m_pw c f p ≤ 100000 := by
  unfold m_pw
  split <;> omega
theorem bf_t {σ : sT} {r p c f : Int} {b : Bool} (hb : b = true) (h1 : ¬ σ 4 r < m_worst σ r f + m_pw c f p) (h2 : ¬ σ 8 f < m_worst σ (-1) f + m_pw c f p) : (1 : Int) = bI (b && m_bf σ r p c f) := by
  have h : (b && m_bf σ r p c f) = true := by
    rw [hb, Bool.true_and]
    unfold m_bf
    rw [Bool.and_eq_true, decide_eq_true_eq, decide_eq_true_eq]
    omega
  rw [h]
  rfl
theorem bf_1 {σ : sT} {r p c f : Int} {b : Bool} (hb : b = false) : (0 : Int) = bI (b && m_bf σ r p c f) := by
  rw [hb]
  rfl
theorem bf_2 {σ : sT} {r p c f : Int} {b : Bool} (h1 : σ 4 r < m_worst σ r f + m_pw c f p) : (0 : Int) = bI (b && m_bf σ r p c f) := by
  have h : (b && m_bf σ r p c f) = false := by
    unfold m_bf
    rw [show decide (m_worst σ r f + m_pw c f p ≤ σ 4 r) = false from decide_eq_false (by omega), Bool.false_and, Bool.and_false]
  rw [h]
  rfl
theorem bf_3 {σ : sT} {r p c f : Int} {b : Bool} (h1 : σ 8 f < m_worst σ (-1) f + m_pw c f p) : (0 : Int) = bI (b && m_bf σ r p c f) := by
  have h : (b && m_bf σ r p c f) = false := by
    unfold m_bf
    rw [show decide (m_worst σ (-1) f + m_pw c f p ≤ σ 8 f) = false from decide_eq_false (by omega), Bool.and_false, Bool.and_false]
  rw [h]
  rfl
theorem m_slotIn_rng {σ : sT} (hB : MB σ) {r : Int} (hr : 0 ≤ r ∧ r < 8) (n p w c : Int) : -1 ≤ m_slotIn σ r n p w c ∧ m_slotIn σ r n p w c ≤ 19 := by
  have b : (0 : Int) ≤ σ 2 r ∧ σ 2 r ≤ (20 : Int) := hB 2 r hr.1 (show r < (8 : Int) from hr.2)
  have h := ff_rng (fun s => m_free σ r s n) b.1
  unfold m_slotIn
  split <;> omega
theorem m_pr_rng {σ : sT} (hB : MB σ) (k : Int) : -1 ≤ m_pr σ k ∧ m_pr σ k < 8 := by
  have b := mb_nr hB
  have h := ff_rng (fun r => decide (m_slotIn σ r (σ 11 k) (σ 12 k) (σ 13 k) (σ 14 k) ≠ -1)) b.1
  unfold m_pr
  omega
theorem m_put_none {σ : sT} {k : Int} (h : m_pr σ k = -1) : m_put σ k = σ := if_pos h
theorem m_put_some {σ : sT} {k : Int} (h : ¬ m_pr σ k = -1) : m_put σ k = su (su σ 15 k (m_pr σ k)) 16 k (m_slotIn σ (m_pr σ k) (σ 11 k) (σ 12 k) (σ 13 k) (σ 14 k)) := if_neg h
theorem m_put_mb {σ : sT} (hB : MB σ) (k : Int) : MB (m_put σ k) := by
  by_cases h : m_pr σ k = -1
  · rw [m_put_none h]; exact hB
  · rw [m_put_some h]
    have h1 := m_pr_rng hB k
    have h2 := m_slotIn_rng hB (r := m_pr σ k) (by omega) (σ 11 k) (σ 12 k) (σ 13 k) (σ 14 k)
    refine mb_su (mb_su hB (show (-1 : Int) ≤ m_pr σ k ∧ m_pr σ k ≤ (7 : Int) by omega)) (show (0 : Int) ≤ _ ∧ _ ≤ (19 : Int) from ⟨?_, h2.2⟩)
    have h3 := ff_cases (fun r => decide (m_slotIn σ r (σ 11 k) (σ 12 k) (σ 13 k) (σ 14 k) ≠ -1)) (mb_nr hB).1
    rcases h3 with ⟨a, -⟩ | ⟨-, -, a, -⟩
    · exact absurd a h
    · rw [decide_eq_true_eq] at a
      have a' : m_slotIn σ (m_pr σ k) (σ 11 k) (σ 12 k) (σ 13 k) (σ 14 k) ≠ -1 := a
      omega
theorem m_nx_rng {σ : sT} (hB : MB σ) : -1 ≤ m_nx σ ∧ m_nx σ < 60 ∧ (m_nx σ = -1 ∨ m_nx σ < σ 17 0) := by
  have b := mb_nm hB
  have h := m_best_rng σ b.1
  unfold m_nx
  omega
theorem mul_rng {m u : Int} (hm : 0 ≤ m ∧ m ≤ 1000) (hu : 0 ≤ u ∧ u ≤ 2000) : 0 ≤ m * u ∧ m * u ≤ 2000000 := by
  have h1 := Int.mul_nonneg hm.1 hu.1
  have h2 := Int.mul_le_mul hm.2 hu.2 hu.1 (by decide)
  omega
theorem m_wi_rng {m q u : Int} (hm : 0 ≤ m) (hq : 0 ≤ q) (hu : 0 ≤ u) : 0 ≤ m_wi m q u ∧ m_wi m q u ≤ m := by
  unfold m_wi
  split
  · omega
  · rename_i h
    have hu2 : 0 < u := by omega
    have h1 : q < m * u := by omega
    exact ⟨Int.ediv_nonneg hq hu, Int.le_of_lt (Int.ediv_lt_of_lt_mul hu2 h1)⟩
def m_rf (σ : sT) (r p c f a : Int) : Int := if cdd c f = true then m_wi a (σ 4 r - m_worst σ r f) p else a
theorem m_rf_rng (σ : sT) (r p c f : Int) {a : Int} (ha : 0 ≤ a) (hq : 0 ≤ σ 4 r - m_worst σ r f) (hp : 0 ≤ p) : 0 ≤ m_rf σ r p c f a ∧ m_rf σ r p c f a ≤ a := by
  unfold m_rf
  split
  · exact m_wi_rng ha hq hp
  · omega
def m_roomIn (σ : sT) (r n p w c : Int) : Int := m_rf σ r p c 1 (m_rf σ r p c 0 (m_wi (m_run σ r n (σ 2 r)).1 (σ 3 r - m_weighs σ r) w))
theorem m_roomIn_rng {σ : sT} (hB : MB σ) {r n p w c : Int} (hr : 0 ≤ r ∧ r < 8) (hp : 0 ≤ p) (hw : 0 ≤ w) (hL : m_weighs σ r ≤ σ 3 r ∧ m_worst σ r 0 ≤ σ 4 r ∧ m_worst σ r 1 ≤ σ 4 r) : 0 ≤ m_roomIn σ r n p w c ∧ m_roomIn σ r n p w c ≤ 20 := by
  have bs : (0 : Int) ≤ σ 2 r ∧ σ 2 r ≤ (20 : Int) := hB 2 r hr.1 (show r < (8 : Int) from hr.2)
  have h0 := m_run_rng σ r n bs.1
  have h1 := m_wi_rng (m := (m_run σ r n (σ 2 r)).1) (q := σ 3 r - m_weighs σ r) (u := w) (by omega) (by omega) hw
  have h2 := m_rf_rng σ r p c 0 (a := m_wi (m_run σ r n (σ 2 r)).1 (σ 3 r - m_weighs σ r) w) h1.1 (by omega) hp
  have h3 := m_rf_rng σ r p c 1 (a := m_rf σ r p c 0 (m_wi (m_run σ r n (σ 2 r)).1 (σ 3 r - m_weighs σ r) w)) h2.1 (by omega) hp
  unfold m_roomIn
  omega
