theorem mb_nm {σ : sT} (hB : MB σ) : (0 : Int) ≤ σ 17 0 ∧ σ 17 0 ≤ (60 : Int) := hB 17 0 (by decide) (by decide)
theorem mb_nr {σ : sT} (hB : MB σ) : (0 : Int) ≤ σ 5 0 ∧ σ 5 0 ≤ (8 : Int) := hB 5 0 (by decide) (by decide)
theorem m_wo_rng {σ : sT} (hB : MB σ) (r f : Int) {k : Int} (h0 : 0 ≤ k) (h1 : k < 60) : 0 ≤ m_wo σ r f k ∧ m_wo σ r f k ≤ 2000 := by
  have b : (0 : Int) ≤ σ 12 k ∧ σ 12 k ≤ (2000 : Int) := hB 12 k h0 (show k < (60 : Int) from h1)
  unfold m_wo
  split <;> omega
theorem m_worst_rng {σ : sT} (hB : MB σ) (r f : Int) : 0 ≤ m_worst σ r f ∧ m_worst σ r f ≤ 120000 := by
  have b := mb_nm hB
  have h := sm_le (f := m_wo σ r f) (a := 0) (b := 2000) b.1 (fun k h0 h1 => m_wo_rng hB r f h0 (by omega))
  unfold m_worst
  omega
theorem m_we_rng {σ : sT} (hB : MB σ) (r : Int) {k : Int} (h0 : 0 ≤ k) (h1 : k < 60) : 0 ≤ m_we σ r k ∧ m_we σ r k ≤ 1000 := by
  have b : (0 : Int) ≤ σ 13 k ∧ σ 13 k ≤ (1000 : Int) := hB 13 k h0 (show k < (60 : Int) from h1)
  unfold m_we
  split <;> omega
theorem m_weighs_rng {σ : sT} (hB : MB σ) (r : Int) : 0 ≤ m_weighs σ r ∧ m_weighs σ r ≤ 60000 := by
  have b := mb_nm hB
  have h := sm_le (f := m_we σ r) (a := 0) (b := 1000) b.1 (fun k h0 h1 => m_we_rng hB r h0 (by omega))
  unfold m_weighs
  omega
theorem m_rw_rng {σ : sT} (hB : MB σ) (row : Int) (r : Int) : 0 ≤ m_rw σ row r ∧ m_rw σ row r ≤ 60000 := by
  have b := m_weighs_rng hB r
  unfold m_rw
  split <;> omega
theorem m_rowWeighs_rng {σ : sT} (hB : MB σ) (row : Int) : 0 ≤ m_rowWeighs σ row ∧ m_rowWeighs σ row ≤ 480000 := by
  have b := mb_nr hB
  have h := sm_le (f := m_rw σ row) (a := 0) (b := 60000) b.1 (fun k h0 h1 => m_rw_rng hB row k)
  unfold m_rowWeighs
  omega
theorem m_rh_rng {σ : sT} (hB : MB σ) (row : Int) {k : Int} (h0 : 0 ≤ k) (h1 : k < 60) : 0 ≤ m_rh σ row k ∧ m_rh σ row k ≤ 2000 := by
  have b : (0 : Int) ≤ σ 12 k ∧ σ 12 k ≤ (2000 : Int) := hB 12 k h0 (show k < (60 : Int) from h1)
  unfold m_rh
  split <;> omega
theorem m_rowHeats_rng {σ : sT} (hB : MB σ) (row : Int) : 0 ≤ m_rowHeats σ row ∧ m_rowHeats σ row ≤ 120000 := by
  have b := mb_nm hB
  have h := sm_le (f := m_rh σ row) (a := 0) (b := 2000) b.1 (fun k h0 h1 => m_rh_rng hB row h0 (by omega))
  unfold m_rowHeats
  omega
theorem m_inSlot_rng {σ : sT} (hB : MB σ) (r s : Int) : -1 ≤ m_inSlot σ r s ∧ m_inSlot σ r s < 60 := by
  have b := mb_nm hB
  have h := ff_rng (m_ins σ r s) b.1
  unfold m_inSlot
  omega
theorem m_find_rng {σ : sT} (hB : MB σ) (num : Int) : -1 ≤ m_find σ num ∧ m_find σ num < 60 ∧ (m_find σ num = -1 ∨ m_find σ num < σ 17 0) := by
  have b := mb_nm hB
  have h := ff_rng (fun k => decide (σ 10 k = num)) b.1
  unfold m_find
  omega
/-- all of p below n -/
def al (p : Int → Bool) (n : Int) : Bool := decide (ff (fun j => !(p j)) n = -1)
theorem al_iff {p : Int → Bool} {n : Int} (hn : 0 ≤ n) : al p n = true ↔ ∀ j, 0 ≤ j → j < n → p j = true := by
  unfold al
  rw [decide_eq_true_eq]
  rcases ff_cases (fun j => !(p j)) hn with ⟨a, b⟩ | ⟨a, b, c, d⟩
  · constructor
    · intro _ j h0 h1
      have := b j h0 h1
      simpa using this
    · intro _; exact a
  · constructor
    · intro h; omega
    · intro h
      have := h _ a b
      simp [this] at c
def m_pw (c f p : Int) : Int := if cdd c f = true then p else 0
def m_bf (σ : sT) (r p c f : Int) : Bool := decide (m_worst σ r f + m_pw c f p ≤ σ 4 r) && decide (m_worst σ (-1) f + m_pw c f p ≤ σ 8 f)
def m_borne (σ : sT) (r p w c : Int) : Bool := (decide (m_weighs σ r + w ≤ σ 3 r) && decide (m_rowWeighs σ (σ 1 r) + w ≤ σ 7 (σ 1 r)) && decide (m_rowHeats σ (σ 1 r) + p ≤ σ 6 (σ 1 r))) && m_bf σ r p c 0 && m_bf σ r p c 1
def m_free (σ : sT) (r s n : Int) : Bool := decide (s + n ≤ σ 2 r) && al (fun j => decide (m_inSlot σ r (s + j) = -1)) n
def m_slotIn (σ : sT) (r n p w c : Int) : Int := if m_borne σ r p w c = true then ff (fun s => m_free σ r s n) (σ 2 r) else -1
def m_pr (σ : sT) (k : Int) : Int := ff (fun r => decide (m_slotIn σ r (σ 11 k) (σ 12 k) (σ 13 k) (σ 14 k) ≠ -1)) (σ 5 0)
def m_put (σ : sT) (k : Int) : sT := if m_pr σ k = -1 then σ else su (su σ 15 k (m_pr σ k)) 16 k (m_slotIn σ (m_pr σ k) (σ 11 k) (σ 12 k) (σ 13 k) (σ 14 k))
def m_kind (n p w c : Int) : Bool := inn n 1 6 && inn p 0 2000 && inn w 0 1000 && inn c 0 2
def m_way (σ : sT) (k : Int) : Int := 20 * σ 15 k + σ 16 k
def m_tk (σ : sT) (k f : Int) : Int := if σ 9 f = 1 ∨ cdd (σ 14 k) f = false then 0 else if σ 14 k = 2 ∧ σ 9 (1 - f) = 0 then (if f = 0 then (σ 12 k + 1) / 2 else σ 12 k / 2) else σ 12 k
def m_ahead (σ : sT) (k e : Int) : Bool := decide (σ 11 e < σ 11 k) || (decide (σ 11 k = σ 11 e) && (decide (σ 12 e < σ 12 k) || (decide (σ 12 k = σ 12 e) && decide (σ 10 k < σ 10 e))))
/-- the best of the machines that are in no rack, of those below n -/
def m_bestN (σ : sT) : Nat → Int
  | 0 => -1
  | n + 1 => if σ 15 n = -1 ∧ (m_bestN σ n = -1 ∨ m_ahead σ n (m_bestN σ n) = true) then n else m_bestN σ n
def m_best (σ : sT) (n : Int) : Int := m_bestN σ n.toNat
theorem m_best_s (σ : sT) {k : Int} (h : 0 ≤ k) : m_best σ (k + 1) = if σ 15 k = -1 ∧ (m_best σ k = -1 ∨ m_ahead σ k (m_best σ k) = true) then k else m_best σ k := by
  unfold m_best
  rw [show (k + 1).toNat = k.toNat + 1 by omega]
  show (if σ 15 ((k.toNat : Nat) : Int) = -1 ∧ _ then ((k.toNat : Nat) : Int) else _) = _
  rw [show ((k.toNat : Nat) : Int) = k by omega]
theorem m_best_rng (σ : sT) {n : Int} (hn : 0 ≤ n) : m_best σ n = -1 ∨ (0 ≤ m_best σ n ∧ m_best σ n < n) := by
  refine sm_ind (p := fun m => m_best σ m = -1 ∨ (0 ≤ m_best σ m ∧ m_best σ m < m)) n (Or.inl rfl) ?_ hn
  intro k h0 h1 ih
  rw [m_best_s σ h0]
  split
  · exact Or.inr ⟨h0, by omega⟩
  · rcases ih with ih | ih
    · exact Or.inl ih
    · exact Or.inr ⟨ih.1, by omega⟩
def m_nx (σ : sT) : Int := m_best σ (σ 17 0)
def m_wi (m l u : Int) : Int := if u = 0 ∨ m * u ≤ l then m else l / u
/-- the run of free slots that ends below s, and how many times n of them were full -/
def m_runN (σ : sT) (r n : Int) : Nat → Int × Int
  | 0 => (0, 0)
  | s + 1 => let q := m_runN σ r n s
    let run := if m_inSlot σ r s = -1 then q.2 + 1 else 0
    if run = n then (q.1 + 1, 0) else (q.1, run)
def m_run (σ : sT) (r n s : Int) : Int × Int := m_runN σ r n s.toNat
theorem m_run_s (σ : sT) (r n : Int) {s : Int} (h : 0 ≤ s) : m_run σ r n (s + 1) = (if (if m_inSlot σ r s = -1 then (m_run σ r n s).2 + 1 else 0) = n then ((m_run σ r n s).1 + 1, 0) else ((m_run σ r n s).1, (if m_inSlot σ r s = -1 then (m_run σ r n s).2 + 1 else 0))) := by
  unfold m_run
  rw [show (s + 1).toNat = s.toNat + 1 by omega]
  show (if (if m_inSlot σ r ((s.toNat : Nat) : Int) = -1 then _ else _) = n then _ else _) = _
  rw [show ((s.toNat : Nat) : Int) = s by omega]
theorem m_run_rng (σ : sT) (r n : Int) {s : Int} (hs : 0 ≤ s) : 0 ≤ (m_run σ r n s).1 ∧ (m_run σ r n s).1 ≤ s ∧ 0 ≤ (m_run σ r n s).2 ∧ (m_run σ r n s).2 ≤ s := by
  refine sm_ind (p := fun s => 0 ≤ (m_run σ r n s).1 ∧ (m_run σ r n s).1 ≤ s ∧ 0 ≤ (m_run σ r n s).2 ∧ (m_run σ r n s).2 ≤ s) s ⟨Int.le_refl 0, Int.le_refl 0, Int.le_refl 0, Int.le_refl 0⟩ ?_ hs
  intro k h0 h1 ih
  rw [m_run_s σ r n h0]
  split <;> (try split) <;> simp only [] <;> omega
def m_gapN (σ : sT) (r : Int) : Nat → Int × Int
  | 0 => (0, 0)
  | s + 1 => let q := m_gapN σ r s
    let run := if m_inSlot σ r s = -1 then q.2 + 1 else 0
    (if q.1 < run then run else q.1, run)
def m_gap (σ : sT) (r s : Int) : Int × Int := m_gapN σ r s.toNat
theorem m_gap_s (σ : sT) (r : Int) {s : Int} (h : 0 ≤ s) : m_gap σ r (s + 1) = (if (m_gap σ r s).1 < (if m_inSlot σ r s = -1 then (m_gap σ r s).2 + 1 else 0) then (if m_inSlot σ r s = -1 then (m_gap σ r s).2 + 1 else 0) else (m_gap σ r s).1, (if m_inSlot σ r s = -1 then (m_gap σ r s).2 + 1 else 0)) := by
  unfold m_gap
  rw [show (s + 1).toNat = s.toNat + 1 by omega]
  show ((if _ < (if m_inSlot σ r ((s.toNat : Nat) : Int) = -1 then _ else _) then _ else _), _) = _
  rw [show ((s.toNat : Nat) : Int) = s by omega]
theorem m_gap_rng (σ : sT) (r : Int) {s : Int} (hs : 0 ≤ s) : 0 ≤ (m_gap σ r s).1 ∧ (m_gap σ r s).1 ≤ s ∧ 0 ≤ (m_gap σ r s).2 ∧ (m_gap σ r s).2 ≤ s := by
  refine sm_ind (p := fun s => 0 ≤ (m_gap σ r s).1 ∧ (m_gap σ r s).1 ≤ s ∧ 0 ≤ (m_gap σ r s).2 ∧ (m_gap σ r s).2 ≤ s) s ⟨Int.le_refl 0, Int.le_refl 0, Int.le_refl 0, Int.le_refl 0⟩ ?_ hs
  intro k h0 h1 ih
  rw [m_gap_s σ r h0]
  simp only []
  split <;> (try split) <;> omega
theorem m_way_rng {σ : sT} (hB : MB σ) {k : Int} (h0 : 0 ≤ k) (h1 : k < 60) : -20 ≤ m_way σ k ∧ m_way σ k ≤ 159 := by
  have b1 : (-1 : Int) ≤ σ 15 k ∧ σ 15 k ≤ (7 : Int) := hB 15 k h0 (show k < (60 : Int) from h1)
  have b2 : (0 : Int) ≤ σ 16 k ∧ σ 16 k ≤ (19 : Int) := hB 16 k h0 (show k < (60 : Int) from h1)
  unfold m_way
  omega
