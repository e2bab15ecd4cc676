/-! ===== class and reference: the relation ===== -/
theorem sm_add (f g : Int → Int) {n : Int} (hn : 0 ≤ n) : sm (fun k => f k + g k) n = sm f n + sm g n := by
  refine sm_ind (p := fun n => sm (fun k => f k + g k) n = sm f n + sm g n) n rfl (fun k h0 _ hk => ?_) hn
  rw [sm_s _ h0, sm_s _ h0, sm_s _ h0, hk]
  omega
theorem sm_zero {n : Int} (hn : 0 ≤ n) : sm (fun _ => 0) n = 0 := by
  refine sm_ind (p := fun n => sm (fun _ => 0) n = 0) n rfl (fun k h0 _ hk => ?_) hn
  rw [sm_s _ h0, hk]
  rfl
theorem sm_one (x v : Int) {n : Int} (hn : 0 ≤ n) : sm (fun k => if k = x then v else 0) n = if 0 ≤ x ∧ x < n then v else 0 := by
  refine sm_ind (p := fun n => sm (fun k => if k = x then v else 0) n = if 0 ≤ x ∧ x < n then v else 0) n ?_ (fun k h0 _ hk => ?_) hn
  · rw [if_neg (by omega)]; rfl
  · rw [sm_s _ h0, hk]
    by_cases c1 : k = x
    · subst c1
      rw [if_neg (by omega), if_pos rfl, if_pos (by omega)]
      omega
    · rw [if_neg c1]
      by_cases c2 : 0 ≤ x ∧ x < k
      · rw [if_pos c2, if_pos (by omega)]; omega
      · rw [if_neg c2, if_neg (by omega)]; omega
/-- sums over racks of sums over machines -/
theorem exch (rk p : Int → Int) (c : Int → Bool) {n m : Int} (hn : 0 ≤ n) (hm : 0 ≤ m) : sm (fun R => if c R = true then sm (fun k => if rk k = R then p k else 0) m else 0) n = sm (fun k => if 0 ≤ rk k ∧ rk k < n ∧ c (rk k) = true then p k else 0) m := by
  refine sm_ind (p := fun m => sm (fun R => if c R = true then sm (fun k => if rk k = R then p k else 0) m else 0) n = sm (fun k => if 0 ≤ rk k ∧ rk k < n ∧ c (rk k) = true then p k else 0) m) m ?_ (fun j h0 _ hj => ?_) hm
  · show sm (fun R => if c R = true then (0 : Int) else 0) n = 0
    rw [sm_cong (g := fun _ => 0) hn (fun k _ _ => by split <;> rfl), sm_zero hn]
  · rw [sm_s _ h0, ← hj]
    have e1 : ∀ R, (if c R = true then sm (fun k => if rk k = R then p k else 0) (j + 1) else 0) = (if c R = true then sm (fun k => if rk k = R then p k else 0) j else 0) + (if R = rk j then (if c (rk j) = true then p j else 0) else 0) := by
      intro R
      rw [sm_s _ h0]
      by_cases c1 : rk j = R
      · subst c1
        rw [if_pos rfl, if_pos rfl]
        split <;> omega
      · rw [if_neg c1, if_neg (show ¬ R = rk j from fun z => c1 z.symm)]
        split <;> omega
    rw [sm_cong hn (fun R _ _ => e1 R), sm_add _ _ hn, sm_one _ _ hn]
    congr 1
    by_cases c1 : 0 ≤ rk j ∧ rk j < n
    · rw [if_pos c1]
      by_cases c2 : c (rk j) = true
      · rw [if_pos c2, if_pos ⟨c1.1, c1.2, c2⟩]
      · rw [if_neg c2, if_neg (fun z => c2 z.2.2)]
    · rw [if_neg c1, if_neg (fun z => c1 ⟨z.1, z.2.1⟩)]
/-- the heat of a rack's machines -/
def m_hh (σ : sT) (r k : Int) : Int := if σ 15 k = r then σ 12 k else 0
def m_hts (σ : sT) (r : Int) : Int := sm (m_hh σ r) (σ 17 0)
/-- every machine is in a rack that stands, or in none -/
def RV (σ : sT) : Prop := ∀ k, 0 ≤ k → k < σ 17 0 → σ 15 k = -1 ∨ (0 ≤ σ 15 k ∧ σ 15 k < σ 5 0)
/-- racks, limits, feeds -/
def SRel (r : Nat → Int → Option Nat) (τ σ : sT) : Prop := τ 55 0 = σ 5 0 ∧ (∀ k : Int, 0 ≤ k → k < σ 5 0 → τ 40 (ad r 2 k) = σ 1 k ∧ τ 41 (ad r 2 k) = σ 2 k ∧ τ 42 (ad r 2 k) = σ 3 k ∧ τ 43 (ad r 2 k) = σ 4 k) ∧ (∀ z : Int, 0 ≤ z → z < 4 → τ 20 z = σ 6 z ∧ τ 21 z = σ 7 z) ∧ (∀ z : Int, 0 ≤ z → z < 2 → τ 22 z = σ 8 z)
/-- a layout shows the machines' places -/
def LR (τ : sT) (w : Nat) (σ : sT) : Prop := (∀ k : Int, 0 ≤ k → k < 8 → τ (w + 2) k = m_weighs σ k ∧ τ (w + 3) k = m_hts σ k ∧ τ (w + 5) k = m_worst σ k 0 ∧ τ (w + 6) k = m_worst σ k 1) ∧ ∀ k s : Int, 0 ≤ k → k < 8 → 0 ≤ s → s < 20 → τ (w + 1) (k * 20 + s) = if m_inSlot σ k s = -1 then -1 else σ 10 (m_inSlot σ k s)
theorem wo_r {σ : sT} {r f k : Int} (h : 0 ≤ r) : m_wo σ r f k = if σ 15 k = r then (if cdd (σ 14 k) f = true then σ 12 k else 0) else 0 := by
  unfold m_wo
  by_cases c : σ 15 k = r
  · rw [if_pos c]
    by_cases c2 : cdd (σ 14 k) f = true
    · rw [if_pos c2, if_pos ⟨by omega, Or.inr c, c2⟩]
    · rw [if_neg c2, if_neg (fun z => c2 z.2.2)]
  · rw [if_neg c, if_neg (fun z => z.2.1.elim (fun q => by omega) (fun q => c q))]
theorem sum_worst {σ : sT} (hB : MB σ) (hr : RV σ) (f : Int) : sm (fun R => m_worst σ R f) (σ 5 0) = m_worst σ (-1) f := by
  have hn := mb_nr hB
  have hm := mb_nm hB
  have e := exch (fun k => σ 15 k) (fun k => if cdd (σ 14 k) f = true then σ 12 k else 0) (fun _ => true) hn.1 hm.1
  have e1 : sm (fun R => m_worst σ R f) (σ 5 0) = sm (fun R => if (fun _ : Int => true) R = true then sm (fun k => if (fun k => σ 15 k) k = R then (fun k => if cdd (σ 14 k) f = true then σ 12 k else 0) k else 0) (σ 17 0) else 0) (σ 5 0) := by
    refine sm_cong hn.1 (fun R q0 q1 => ?_)
    rw [if_pos rfl]
    exact sm_cong hm.1 (fun k _ _ => wo_r q0)
  rw [e1, e]
  refine sm_cong hm.1 (fun k q0 q1 => ?_)
  show (if 0 ≤ σ 15 k ∧ σ 15 k < σ 5 0 ∧ true = true then (if cdd (σ 14 k) f = true then σ 12 k else 0) else 0) = m_wo σ (-1) f k
  unfold m_wo
  rcases hr k q0 q1 with c | c
  · rw [if_neg (by omega), if_neg (fun z => z.1 c)]
  · rw [if_pos ⟨c.1, c.2, rfl⟩]
    by_cases c2 : cdd (σ 14 k) f = true
    · rw [if_pos c2, if_pos ⟨by omega, Or.inl rfl, c2⟩]
    · rw [if_neg c2, if_neg (fun z => c2 z.2.2)]
theorem sum_heats {σ : sT} (hB : MB σ) (hr : RV σ) (row : Int) : sm (fun R => if σ 1 R = row then m_hts σ R else 0) (σ 5 0) = m_rowHeats σ row := by
  have hn := mb_nr hB
  have hm := mb_nm hB
  have e := exch (fun k => σ 15 k) (fun k => σ 12 k) (fun R => decide (σ 1 R = row)) hn.1 hm.1
  have e1 : sm (fun R => if σ 1 R = row then m_hts σ R else 0) (σ 5 0) = sm (fun R => if (fun R => decide (σ 1 R = row)) R = true then sm (fun k => if (fun k => σ 15 k) k = R then (fun k => σ 12 k) k else 0) (σ 17 0) else 0) (σ 5 0) := by
    refine sm_cong hn.1 (fun R q0 q1 => ?_)
    by_cases c : σ 1 R = row
    · rw [if_pos c, if_pos (decide_eq_true c)]; rfl
    · rw [if_neg c, if_neg (by simpa using c)]
  rw [e1, e]
  refine sm_cong hm.1 (fun k q0 q1 => ?_)
  show (if 0 ≤ σ 15 k ∧ σ 15 k < σ 5 0 ∧ decide (σ 1 (σ 15 k) = row) = true then σ 12 k else 0) = m_rh σ row k
  unfold m_rh
  rcases hr k q0 q1 with c | c
  · rw [if_neg (by omega), if_neg (fun z => z.1 c)]
  · by_cases c2 : σ 1 (σ 15 k) = row
    · rw [if_pos ⟨c.1, c.2, decide_eq_true c2⟩, if_pos ⟨by omega, c2⟩]
    · rw [if_neg (fun z => c2 (of_decide_eq_true z.2.2)), if_neg (fun z => c2 z.2)]
section LK
variable {K : Nat → Nat} {r : Nat → Int → Option Nat} {cp : Nat → Nat} {τ σ : sT} {w : Nat}
theorem lk_rw (hB : MB σ) (hS : SRel r τ σ) (hL : LR τ w σ) (row : Int) : cSum r τ (w + 2) row = m_rowWeighs σ row := by
  have hn := mb_nr hB
  unfold cSum m_rowWeighs
  rw [hS.1]
  refine sm_cong hn.1 (fun k q0 q1 => ?_)
  unfold cSR m_rw
  rw [(hS.2.1 k q0 q1).1, (hL.1 k q0 (by omega)).1]
theorem lk_rh (hB : MB σ) (hr : RV σ) (hS : SRel r τ σ) (hL : LR τ w σ) (row : Int) : cSum r τ (w + 3) row = m_rowHeats σ row := by
  have hn := mb_nr hB
  rw [← sum_heats hB hr row]
  unfold cSum
  rw [hS.1]
  refine sm_cong hn.1 (fun k q0 q1 => ?_)
  unfold cSR
  rw [(hS.2.1 k q0 q1).1, (hL.1 k q0 (by omega)).2.1]
theorem lk_w0 (hB : MB σ) (hr : RV σ) (hS : SRel r τ σ) (hL : LR τ w σ) : cAll τ (w + 5) = m_worst σ (-1) 0 := by
  have hn := mb_nr hB
  rw [← sum_worst hB hr 0]
  unfold cAll
  rw [hS.1]
  exact sm_cong hn.1 (fun k q0 q1 => (hL.1 k q0 (by omega)).2.2.1)
theorem lk_w1 (hB : MB σ) (hr : RV σ) (hS : SRel r τ σ) (hL : LR τ w σ) : cAll τ (w + 6) = m_worst σ (-1) 1 := by
  have hn := mb_nr hB
  rw [← sum_worst hB hr 1]
  unfold cAll
  rw [hS.1]
  exact sm_cong hn.1 (fun k q0 q1 => (hL.1 k q0 (by omega)).2.2.2)
theorem lk_be (hB : MB σ) (hr : RV σ) (hS : SRel r τ σ) (hL : LR τ w σ) {k : Int} (h0 : 0 ≤ k) (h1 : k < σ 5 0) (m : Nat) : cBE r τ w k m = m_borne σ k (τ 32 m) (τ 33 m) (τ 34 m) := by
  have hn := mb_nr hB
  have hk := hS.2.1 k h0 h1
  have hl := hL.1 k h0 (by omega)
  have hrow := hB 1 k h0 (show k < (8 : Int) by omega)
  have hrow' : 0 ≤ σ 1 k ∧ σ 1 k ≤ 3 := hrow
  have hz := hS.2.2.1 (σ 1 k) hrow'.1 (by omega)
  unfold cBE m_borne cB0 cBM m_bf
  rw [hk.1, hk.2.2.1, hk.2.2.2, hl.1, hl.2.2.1, hl.2.2.2, lk_rw hB hS hL, lk_rh hB hr hS hL, lk_w0 hB hr hS hL, lk_w1 hB hr hS hL, hz.1, hz.2, hS.2.2.2 0 (by decide) (by decide), hS.2.2.2 1 (by decide) (by decide)]
/-- numbers are never -1 -/
theorem lk_em (hB : MB σ) (hL : LR τ w σ) {k s : Int} (h0 : 0 ≤ k) (h1 : k < 8) (s0 : 0 ≤ s) (s1 : s < 20) : cEm τ (w + 1) k s = decide (m_inSlot σ k s = -1) := by
  unfold cEm
  rw [hL.2 k s h0 h1 s0 s1]
  have hi := m_inSlot_rng hB k s
  by_cases c : m_inSlot σ k s = -1
  · rw [if_pos c, c]
  · rw [if_neg c]
    have hnum : 0 ≤ σ 10 (m_inSlot σ k s) := (hB 10 (m_inSlot σ k s) (by omega) (show m_inSlot σ k s < (60 : Int) by omega)).1
    rw [decide_eq_false (by omega), decide_eq_false c]
/-- what the runs of free slots are made of: two tests that agree -/
theorem fr_cong {e e' : Int → Bool} {s : Int} (hs : 0 ≤ s) (h : ∀ j, 0 ≤ j → j < s → e j = e' j) : fr e s = fr e' s := by
  have : ∀ n : Nat, (n : Int) ≤ s → frN e n = frN e' n := by
    intro n
    induction n with
    | zero => intro _; rfl
    | succ n ih =>
      intro hn
      unfold frN
      rw [ih (by omega), h n (by omega) (by omega)]
  exact this s.toNat (by omega)
theorem gp_cong {e e' : Int → Bool} {s : Int} (hs : 0 ≤ s) (h : ∀ j, 0 ≤ j → j < s → e j = e' j) : gp e s = gp e' s := by
  refine sm_ind (p := fun t => t ≤ s → gp e t = gp e' t) s (fun _ => rfl) (fun k h0 _ hk hle => ?_) hs (Int.le_refl _)
  rw [gp_s _ h0, gp_s _ h0, hk (by omega), fr_cong (by omega) (fun j a b => h j a (by omega))]
theorem rn_cong {e e' : Int → Bool} {n s : Int} (hs : 0 ≤ s) (h : ∀ j, 0 ≤ j → j < s → e j = e' j) : rn e n s = rn e' n s := by
  refine sm_ind (p := fun t => t ≤ s → rn e n t = rn e' n t) s (fun _ => rfl) (fun k h0 _ hk hle => ?_) hs (Int.le_refl _)
  rw [rn_s _ _ h0, rn_s _ _ h0, hk (by omega), h k h0 (by omega)]
def m_fe (σ : sT) (k : Int) : Int → Bool := fun s => decide (m_inSlot σ k s = -1)
theorem m_gap_eq (σ : sT) (k : Int) {s : Int} (hs : 0 ≤ s) : m_gap σ k s = (gp (m_fe σ k) s, fr (m_fe σ k) s) := by
  refine sm_ind (p := fun s => m_gap σ k s = (gp (m_fe σ k) s, fr (m_fe σ k) s)) s rfl (fun j h0 _ hj => ?_) hs
  have e : (if m_inSlot σ k j = -1 then fr (m_fe σ k) j + 1 else 0) = fr (m_fe σ k) (j + 1) := by
    rw [fr_s _ h0]
    unfold m_fe
    by_cases c : m_inSlot σ k j = -1
    · rw [if_pos c, if_pos (decide_eq_true c)]
    · rw [if_neg c, if_neg (by simpa using c)]
  rw [m_gap_s _ _ h0, gp_s _ h0, hj]
  simp only [e]
  congr 1
  have h1 := gp_rng (m_fe σ k) h0
  have h2 := fr_rng (m_fe σ k) (s := j + 1) (by omega)
  split <;> omega
theorem m_run_eq (σ : sT) (k n : Int) {s : Int} (hs : 0 ≤ s) : m_run σ k n s = rn (m_fe σ k) n s := by
  refine sm_ind (p := fun s => m_run σ k n s = rn (m_fe σ k) n s) s rfl (fun j h0 _ hj => ?_) hs
  have e : (if m_inSlot σ k j = -1 then (rn (m_fe σ k) n j).2 + 1 else 0) = (if m_fe σ k j = true then (rn (m_fe σ k) n j).2 + 1 else 0) := by
    unfold m_fe
    by_cases c : m_inSlot σ k j = -1
    · rw [if_pos c, if_pos (decide_eq_true c)]
    · rw [if_neg c, if_neg (by simpa using c)]
  rw [m_run_s _ _ _ h0, rn_s _ _ h0, hj]
  simp only [e]
end LK
