def pl_c1 (σ : sT) (n p w c : Int) : Int := if m_kind n p w c = true then (if σ 17 0 = 60 then 2 else 0) else 1
theorem pl_c1_rng (σ : sT) (n p w c : Int) : 0 ≤ pl_c1 σ n p w c ∧ pl_c1 σ n p w c ≤ 3 := by unfold pl_c1; (repeat' split) <;> omega
theorem pl_c10 {σ : sT} {n p w c : Int} (h : pl_c1 σ n p w c = 0) : ((1 ≤ n ∧ n ≤ 6) ∧ (0 ≤ p ∧ p ≤ 2000) ∧ (0 ≤ w ∧ w ≤ 1000) ∧ (0 ≤ c ∧ c ≤ 2)) ∧ σ 17 0 ≠ 60 := by
  unfold pl_c1 at h
  split at h
  · split at h
    · omega
    · exact ⟨kind_iff.mp (by assumption), by assumption⟩
  · omega
def pl_S (σ : sT) (n p w c : Int) : sT := su (su (su (su (su (su σ 0 0 (pl_c1 σ n p w c)) 11 (σ 17 0) n) 12 (σ 17 0) p) 13 (σ 17 0) w) 14 (σ 17 0) c) 10 (σ 17 0) (σ 18 0)
def pl_r (σ : sT) (n p w c : Int) : Int := m_pr (pl_S σ n p w c) (σ 17 0)
def pl_c (σ : sT) (n p w c : Int) : Int := if pl_c1 σ n p w c = 0 then (if pl_r σ n p w c = -1 then 2 else 0) else pl_c1 σ n p w c
def pl_t (σ : sT) (n p w c : Int) : Int := m_slotIn (pl_S σ n p w c) (pl_r σ n p w c) n p w c
def pl_s (σ : sT) (n p w c : Int) : sT := if pl_c1 σ n p w c = 0 then (if pl_r σ n p w c = -1 then su (pl_S σ n p w c) 0 0 2 else su (su (su (su (su (pl_S σ n p w c) 15 (σ 17 0) (pl_r σ n p w c)) 16 (σ 17 0) (pl_t σ n p w c)) 0 0 0) 17 0 (σ 17 0 + 1)) 18 0 (σ 18 0 + 1)) else su σ 0 0 (pl_c1 σ n p w c)
def pl_a (σ : sT) (n p w c : Int) : Int := if pl_c σ n p w c = 0 then σ 18 0 else 0
/-- the machines behind a, one place lower, up to k -/
def m_sh (σ : sT) (a k : Int) : sT := fun f j => if 10 ≤ f ∧ f ≤ 16 then (if a ≤ j ∧ j < k then σ f (j + 1) else σ f j) else σ f j
theorem m_sh_0 (σ : sT) (a : Int) : m_sh σ a a = σ := by
  funext f j
  unfold m_sh
  split
  · rw [if_neg (by omega)]
  · rfl
theorem m_sh_s {σ : sT} {a k : Int} (h : a ≤ k) : su (su (su (su (su (su (su (m_sh σ a k) 10 k (m_sh σ a k 10 (k + 1))) 11 k (m_sh σ a k 11 (k + 1))) 12 k (m_sh σ a k 12 (k + 1))) 13 k (m_sh σ a k 13 (k + 1))) 14 k (m_sh σ a k 14 (k + 1))) 15 k (m_sh σ a k 15 (k + 1))) 16 k (m_sh σ a k 16 (k + 1)) = m_sh σ a (k + 1) := by
  funext f j
  by_cases hf : 10 ≤ f ∧ f ≤ 16
  · have e : su (su (su (su (su (su (su (m_sh σ a k) 10 k (m_sh σ a k 10 (k + 1))) 11 k (m_sh σ a k 11 (k + 1))) 12 k (m_sh σ a k 12 (k + 1))) 13 k (m_sh σ a k 13 (k + 1))) 14 k (m_sh σ a k 14 (k + 1))) 15 k (m_sh σ a k 15 (k + 1))) 16 k (m_sh σ a k 16 (k + 1)) f j = iup (m_sh σ a k f) k (m_sh σ a k f (k + 1)) j := by
      rcases (show f = 10 ∨ f = 11 ∨ f = 12 ∨ f = 13 ∨ f = 14 ∨ f = 15 ∨ f = 16 by omega) with rfl | rfl | rfl | rfl | rfl | rfl | rfl <;> rfl
    rw [e]
    have e1 : ∀ k' j', m_sh σ a k' f j' = if a ≤ j' ∧ j' < k' then σ f (j' + 1) else σ f j' := fun k' j' => if_pos hf
    by_cases hj : j = k
    · subst hj
      rw [iup_s, e1, e1, if_neg (by omega), if_pos (by omega)]
    · rw [iup_n hj, e1, e1]
      by_cases hjk : a ≤ j ∧ j < k
      · rw [if_pos hjk, if_pos (by omega)]
      · rw [if_neg hjk, if_neg (by omega)]
  · rw [su_n (by omega), su_n (by omega), su_n (by omega), su_n (by omega), su_n (by omega), su_n (by omega), su_n (by omega)]
    unfold m_sh
    rw [if_neg hf, if_neg hf]
theorem mb_sh {σ : sT} (hB : MB σ) {a k : Int} (ha : 0 ≤ a) (hk : k < 60) : MB (m_sh σ a k) := by
  intro f j h0 h1
  unfold m_sh
  split
  · rename_i hf
    split
    · have h2 : mln f = 60 := by
        rcases (show f = 10 ∨ f = 11 ∨ f = 12 ∨ f = 13 ∨ f = 14 ∨ f = 15 ∨ f = 16 by omega) with rfl | rfl | rfl | rfl | rfl | rfl | rfl <;> rfl
      exact hB f (j + 1) (by omega) (by omega)
    · exact hB f j h0 h1
  · exact hB f j h0 h1
def tO_s (σ : sT) (num : Int) : sT := if fnd_c σ num = 0 then m_sh (su (su σ 0 0 (fnd_c σ num)) 17 0 (σ 17 0 - 1)) (m_find σ num) (σ 17 0 - 1) else su σ 0 0 (fnd_c σ num)
def tO_a (σ : sT) (num : Int) : Int := if fnd_c σ num = 0 then σ 15 (m_find σ num) else 0
def cd_c1 (σ : sT) (num c : Int) : Int := if m_find σ num = -1 then 1 else (if inn c 0 2 = true then 0 else 2)
theorem cd_c1_rng (σ : sT) (num c : Int) : 0 ≤ cd_c1 σ num c ∧ cd_c1 σ num c ≤ 3 := by unfold cd_c1; (repeat' split) <;> omega
theorem cd_c10 {σ : sT} (hB : MB σ) {num c : Int} (h : cd_c1 σ num c = 0) : (0 ≤ m_find σ num ∧ m_find σ num < σ 17 0) ∧ (0 ≤ c ∧ c ≤ 2) := by
  have h9 := m_find_rng hB num
  unfold cd_c1 at h
  split at h
  · omega
  · split at h
    · exact ⟨by omega, inn_iff.mp (by assumption)⟩
    · omega
def cd_o (σ : sT) (at_ c f : Int) : Bool := decide (σ 4 (σ 15 at_) < m_worst (su σ 14 at_ c) (σ 15 at_) f) || decide (σ 8 f < m_worst (su σ 14 at_ c) (-1) f)
def cd_ov (σ : sT) (num c : Int) : Bool := cd_o σ (m_find σ num) c 0 || cd_o σ (m_find σ num) c 1
def cd_c (σ : sT) (num c : Int) : Int := if cd_c1 σ num c = 0 then (if cd_ov σ num c = true then 3 else 0) else cd_c1 σ num c
def cd_a (σ : sT) (num c : Int) : Int := if cd_c σ num c = 0 then σ 14 (m_find σ num) else 0
def cd_s (σ : sT) (num c : Int) : sT := if cd_c1 σ num c = 0 then (if cd_ov σ num c = true then su (su (su (su σ 0 0 (cd_c1 σ num c)) 14 (m_find σ num) c) 0 0 3) 14 (m_find σ num) (σ 14 (m_find σ num)) else su (su (su σ 0 0 (cd_c1 σ num c)) 14 (m_find σ num) c) 0 0 0) else su σ 0 0 (cd_c1 σ num c)
theorem co_t1 {σ : sT} {at_ c f : Int} {b : Bool} (h : b = true) : (1 : Int) = bI (b || cd_o σ at_ c f) := by rw [h]; rfl
theorem co_t2 {σ : sT} {at_ c f : Int} {b : Bool} (h : σ 4 (σ 15 at_) < m_worst (su σ 14 at_ c) (σ 15 at_) f) : (1 : Int) = bI (b || cd_o σ at_ c f) := by
  unfold cd_o; rw [decide_eq_true h, Bool.true_or, Bool.or_true]; rfl
theorem co_t3 {σ : sT} {at_ c f : Int} {b : Bool} (h : ¬ m_worst (su σ 14 at_ c) (-1) f ≤ σ 8 f) : (1 : Int) = bI (b || cd_o σ at_ c f) := by
  unfold cd_o; rw [decide_eq_true (show σ 8 f < m_worst (su σ 14 at_ c) (-1) f by omega), Bool.or_true, Bool.or_true]; rfl
theorem co_f {σ : sT} {at_ c f : Int} {b : Bool} (h0 : b = false) (h1 : ¬ σ 4 (σ 15 at_) < m_worst (su σ 14 at_ c) (σ 15 at_) f) (h2 : m_worst (su σ 14 at_ c) (-1) f ≤ σ 8 f) : (0 : Int) = bI (b || cd_o σ at_ c f) := by
  unfold cd_o; rw [h0, decide_eq_false h1, decide_eq_false (show ¬ σ 8 f < m_worst (su σ 14 at_ c) (-1) f by omega)]; rfl
