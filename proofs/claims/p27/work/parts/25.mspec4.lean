theorem su_self (σ : sT) (f : Nat) (z : Int) : su σ f z (σ f z) = σ := by
  funext f' z'
  unfold su
  split
  · rename_i h
    subst h
    unfold iup
    split
    · rename_i h2; rw [h2]
    · rfl
  · rfl
theorem sm_upd {f g : Int → Int} {n k : Int} (h0 : 0 ≤ k) (h1 : k < n) (h : ∀ j, j ≠ k → f j = g j) : sm f n = sm g n + (f k - g k) := by
  have key : ∀ m, 0 ≤ m → sm f m = sm g m + (if k < m then f k - g k else 0) := by
    intro m hm
    refine sm_ind (p := fun m => sm f m = sm g m + (if k < m then f k - g k else 0)) m ?_ ?_ hm
    · rw [if_neg (by omega)]; rfl
    · intro j a b ih
      rw [sm_s f a, sm_s g a, ih]
      by_cases e : j = k
      · subst e
        rw [if_neg (by omega), if_pos (by omega)]
        omega
      · rw [h j e]
        by_cases q : k < j
        · rw [if_pos q, if_pos (by omega)]; omega
        · rw [if_neg q, if_neg (by omega)]; omega
  rw [key n (by omega), if_pos h1]
def m_p1 (σ : sT) (k : Int) : sT := fun f j => if f = 15 then (if 0 ≤ j ∧ j < k then -1 else σ 15 j) else if f = 19 then (if 0 ≤ j ∧ j < k then σ 15 j else σ 19 j) else if f = 20 then (if 0 ≤ j ∧ j < k then σ 16 j else σ 20 j) else σ f j
theorem m_p1_0 (σ : sT) : m_p1 σ 0 = σ := by
  funext f j
  unfold m_p1
  have h : ¬ (0 ≤ j ∧ j < 0) := by omega
  rw [if_neg h, if_neg h, if_neg h]
  (repeat' split) <;> first | rfl | (subst_vars; rfl)
theorem m_p1_s {σ : sT} {k : Int} (h : 0 ≤ k) : su (su (su (m_p1 σ k) 19 k (m_p1 σ k 15 k)) 20 k (m_p1 σ k 16 k)) 15 k (-1) = m_p1 σ (k + 1) := by
  funext f j
  have e15 : m_p1 σ k 15 k = σ 15 k := by show (if 0 ≤ k ∧ k < k then -1 else σ 15 k) = _; rw [if_neg (by omega)]
  have e16 : m_p1 σ k 16 k = σ 16 k := rfl
  rw [e15, e16]
  by_cases h15 : f = 15
  · subst h15
    show iup (m_p1 σ k 15) k (-1) j = (if 0 ≤ j ∧ j < k + 1 then -1 else σ 15 j)
    by_cases e : j = k
    · subst e; rw [iup_s, if_pos (by omega)]
    · rw [iup_n e]
      show (if 0 ≤ j ∧ j < k then -1 else σ 15 j) = _
      by_cases q : 0 ≤ j ∧ j < k
      · rw [if_pos q, if_pos (by omega)]
      · rw [if_neg q, if_neg (by omega)]
  · by_cases h19 : f = 19
    · subst h19
      show iup (m_p1 σ k 19) k (σ 15 k) j = (if 0 ≤ j ∧ j < k + 1 then σ 15 j else σ 19 j)
      by_cases e : j = k
      · subst e; rw [iup_s, if_pos (by omega)]
      · rw [iup_n e]
        show (if 0 ≤ j ∧ j < k then σ 15 j else σ 19 j) = _
        by_cases q : 0 ≤ j ∧ j < k
        · rw [if_pos q, if_pos (by omega)]
        · rw [if_neg q, if_neg (by omega)]
    · by_cases h20 : f = 20
      · subst h20
        show iup (m_p1 σ k 20) k (σ 16 k) j = (if 0 ≤ j ∧ j < k + 1 then σ 16 j else σ 20 j)
        by_cases e : j = k
        · subst e; rw [iup_s, if_pos (by omega)]
        · rw [iup_n e]
          show (if 0 ≤ j ∧ j < k then σ 16 j else σ 20 j) = _
          by_cases q : 0 ≤ j ∧ j < k
          · rw [if_pos q, if_pos (by omega)]
          · rw [if_neg q, if_neg (by omega)]
      · rw [su_n h15, su_n h20, su_n h19]
        unfold m_p1
        rw [if_neg h15, if_neg h19, if_neg h20, if_neg h15, if_neg h19, if_neg h20]
theorem mb_p1 {σ : sT} (hB : MB σ) (k : Int) : MB (m_p1 σ k) := by
  intro f j h0 h1
  unfold m_p1
  split
  · rename_i e; subst e
    split
    · decide
    · exact hB 15 j h0 h1
  · split
    · rename_i e; subst e
      split
      · exact hB 15 j h0 h1
      · exact hB 19 j h0 h1
    · split
      · rename_i e; subst e
        split
        · exact hB 16 j h0 h1
        · exact hB 20 j h0 h1
      · exact hB f j h0 h1
/-- how many machines are in no rack -/
def m_un (τ : sT) (k : Int) : Int := if τ 15 k = -1 then 1 else 0
def m_cnt (τ : sT) : Int := sm (m_un τ) (τ 17 0)
def m_whN : Nat → sT → sT × Int
  | 0, τ => (τ, m_nx τ)
  | n + 1, τ => if m_nx τ = -1 ∨ m_pr τ (m_nx τ) = -1 then (τ, m_nx τ) else m_whN n (m_put τ (m_nx τ))
def m_wh (τ : sT) : sT × Int := m_whN (m_cnt τ).toNat τ
theorem m_wh_stop {τ : sT} (h : m_nx τ = -1 ∨ m_pr τ (m_nx τ) = -1) : m_wh τ = (τ, m_nx τ) := by
  unfold m_wh
  cases (m_cnt τ).toNat with
  | zero => rfl
  | succ n => exact if_pos h
theorem m_best_un {τ : sT} {n : Int} (hn : 0 ≤ n) : m_best τ n ≠ -1 → τ 15 (m_best τ n) = -1 := by
  refine sm_ind (p := fun m => m_best τ m ≠ -1 → τ 15 (m_best τ m) = -1) n (fun h => absurd rfl h) ?_ hn
  intro k h0 h1 ih
  rw [m_best_s τ h0]
  split
  · rename_i h; exact fun _ => h.1
  · exact ih
theorem m_put_17 (τ : sT) (k : Int) : m_put τ k 17 0 = τ 17 0 := by
  by_cases h : m_pr τ k = -1
  · rw [m_put_none h]
  · rw [m_put_some h]; rfl
theorem m_cnt_put {τ : sT} (hB : MB τ) (h1 : ¬ m_nx τ = -1) (h2 : ¬ m_pr τ (m_nx τ) = -1) : m_cnt τ = m_cnt (m_put τ (m_nx τ)) + 1 := by
  have b := mb_nm hB
  have r := m_best_rng τ b.1
  have u := m_best_un (τ := τ) b.1 h1
  have h9 := sm_upd (f := m_un τ) (g := m_un (m_put τ (m_nx τ))) (n := τ 17 0) (k := m_nx τ) (by unfold m_nx at *; omega) (by unfold m_nx at *; omega) (fun j hj => by
    unfold m_un
    rw [m_put_some h2, show su (su τ 15 (m_nx τ) (m_pr τ (m_nx τ))) 16 (m_nx τ) (m_slotIn τ (m_pr τ (m_nx τ)) (τ 11 (m_nx τ)) (τ 12 (m_nx τ)) (τ 13 (m_nx τ)) (τ 14 (m_nx τ))) 15 j = τ 15 j from iup_n hj])
  unfold m_cnt
  rw [m_put_17, h9]
  have e1 : m_un τ (m_nx τ) = 1 := if_pos u
  have e2 : m_un (m_put τ (m_nx τ)) (m_nx τ) = 0 := by
    unfold m_un
    rw [m_put_some h2, show su (su τ 15 (m_nx τ) (m_pr τ (m_nx τ))) 16 (m_nx τ) (m_slotIn τ (m_pr τ (m_nx τ)) (τ 11 (m_nx τ)) (τ 12 (m_nx τ)) (τ 13 (m_nx τ)) (τ 14 (m_nx τ))) 15 (m_nx τ) = m_pr τ (m_nx τ) from iup_s _ _ _]
    exact if_neg h2
  rw [e1, e2]
  rfl
theorem m_un_01 (τ : sT) (k : Int) : 0 ≤ m_un τ k ∧ m_un τ k ≤ 1 := by unfold m_un; split <;> omega
theorem m_cnt_nn {τ : sT} (hB : MB τ) : 0 ≤ m_cnt τ := by
  have b := mb_nm hB
  have := sm_le (f := m_un τ) (a := 0) (b := 1) b.1 (fun k _ _ => m_un_01 τ k)
  unfold m_cnt
  omega
theorem m_wh_step {τ : sT} (hB : MB τ) (h1 : ¬ m_nx τ = -1) (h2 : ¬ m_pr τ (m_nx τ) = -1) : m_wh τ = m_wh (m_put τ (m_nx τ)) := by
  have h3 := m_cnt_put hB h1 h2
  have h4 := m_cnt_nn (m_put_mb hB (m_nx τ))
  unfold m_wh
  rw [show (m_cnt τ).toNat = (m_cnt (m_put τ (m_nx τ))).toNat + 1 by omega]
  exact if_neg (by omega)
def m_mv (τ : sT) (k : Int) : Int := if τ 15 k ≠ τ 19 k ∨ τ 16 k ≠ τ 20 k then 1 else 0
/-- the old racks and slots of the machines below k -/
def m_p3 (τ : sT) (k : Int) : sT := fun f j => if f = 15 then (if 0 ≤ j ∧ j < k then τ 19 j else τ 15 j) else if f = 16 then (if 0 ≤ j ∧ j < k then τ 20 j else τ 16 j) else τ f j
theorem m_p3_0 (σ : sT) : m_p3 σ 0 = σ := by
  funext f j
  unfold m_p3
  have h : ¬ (0 ≤ j ∧ j < 0) := by omega
  rw [if_neg h, if_neg h]
  (repeat' split) <;> first | rfl | (subst_vars; rfl)
theorem m_p3_15 (τ : sT) (k : Int) : m_p3 τ k 15 k = τ 15 k := by show (if 0 ≤ k ∧ k < k then τ 19 k else τ 15 k) = _; rw [if_neg (by omega)]
theorem m_p3_16 (τ : sT) (k : Int) : m_p3 τ k 16 k = τ 16 k := by show (if 0 ≤ k ∧ k < k then τ 20 k else τ 16 k) = _; rw [if_neg (by omega)]
theorem m_p3_s {τ : sT} {k : Int} (h : 0 ≤ k) : su (su (m_p3 τ k) 15 k (τ 19 k)) 16 k (τ 20 k) = m_p3 τ (k + 1) := by
  funext f j
  by_cases h15 : f = 15
  · subst h15
    show iup (m_p3 τ k 15) k (τ 19 k) j = (if 0 ≤ j ∧ j < k + 1 then τ 19 j else τ 15 j)
    by_cases e : j = k
    · subst e; rw [iup_s, if_pos (by omega)]
    · rw [iup_n e]
      show (if 0 ≤ j ∧ j < k then τ 19 j else τ 15 j) = _
      by_cases q : 0 ≤ j ∧ j < k
      · rw [if_pos q, if_pos (by omega)]
      · rw [if_neg q, if_neg (by omega)]
  · by_cases h16 : f = 16
    · subst h16
      show iup (m_p3 τ k 16) k (τ 20 k) j = (if 0 ≤ j ∧ j < k + 1 then τ 20 j else τ 16 j)
      by_cases e : j = k
      · subst e; rw [iup_s, if_pos (by omega)]
      · rw [iup_n e]
        show (if 0 ≤ j ∧ j < k then τ 20 j else τ 16 j) = _
        by_cases q : 0 ≤ j ∧ j < k
        · rw [if_pos q, if_pos (by omega)]
        · rw [if_neg q, if_neg (by omega)]
    · rw [su_n h16, su_n h15]
      unfold m_p3
      rw [if_neg h15, if_neg h16, if_neg h15, if_neg h16]
theorem mb_p3 {σ : sT} (hB : MB σ) (k : Int) : MB (m_p3 σ k) := by
  intro f j h0 h1
  unfold m_p3
  split
  · rename_i e; subst e
    split
    · exact hB 19 j h0 h1
    · exact hB 15 j h0 h1
  · split
    · rename_i e; subst e
      split
      · exact hB 20 j h0 h1
      · exact hB 16 j h0 h1
    · exact hB f j h0 h1
def pk_R (σ : sT) : sT × Int := m_wh (m_p1 (su σ 0 0 0) (σ 17 0))
def pk_a (σ : sT) : Int := if (pk_R σ).2 = -1 then sm (m_mv (pk_R σ).1) ((pk_R σ).1 17 0) else -1
def pk_s (σ : sT) : sT := if (pk_R σ).2 = -1 then (pk_R σ).1 else m_p3 (pk_R σ).1 ((pk_R σ).1 17 0)
