theorem m_pw2 (σ : sT) (r f k : Int) : True := trivial
theorem okR_iff {σ : sT} {r : Int} : okR σ r = true ↔ 0 ≤ r ∧ r ≤ σ 5 0 - 1 := inn_iff
theorem nx_c0 {σ : sT} {num : Int} (h : nx_c σ num = 0) : num = -1 ∨ nx_at σ num ≠ -1 := by
  unfold nx_c at h
  split at h
  · omega
  · omega
/-- the room of a row's racks, of a row, of all -/
def rc_t (σ : sT) (n p w c row r : Int) : Int := if σ 1 r = row then m_roomIn σ r n p w c else 0
def rc_row (σ : sT) (n p w c row : Int) : Int := m_wi (m_wi (sm (rc_t σ n p w c row) (σ 5 0)) (σ 7 row - m_rowWeighs σ row) w) (σ 6 row - m_rowHeats σ row) p
def rc_f (σ : sT) (p c f a : Int) : Int := if cdd c f = true then m_wi a (σ 8 f - m_worst σ (-1) f) p else a
def rc_all (σ : sT) (n p w c : Int) : Int := rc_f σ p c 1 (rc_f σ p c 0 (sm (rc_row σ n p w c) 4))
def rc_a (σ : sT) (n p w c : Int) : Int := if c01 (m_kind n p w c) = 0 then rc_all σ n p w c else 0
/-- no load is above its limit -/
def ML (σ : sT) : Prop := (∀ r, 0 ≤ r → r < σ 5 0 → m_weighs σ r ≤ σ 3 r ∧ m_worst σ r 0 ≤ σ 4 r ∧ m_worst σ r 1 ≤ σ 4 r) ∧ (∀ row, 0 ≤ row → row < 4 → m_rowWeighs σ row ≤ σ 7 row ∧ m_rowHeats σ row ≤ σ 6 row) ∧ m_worst σ (-1) 0 ≤ σ 8 0 ∧ m_worst σ (-1) 1 ≤ σ 8 1
theorem rc_t_rng {σ : sT} (hB : MB σ) (hL : ML σ) {n p w c : Int} (hp : 0 ≤ p) (hw : 0 ≤ w) (row : Int) {r : Int} (h0 : 0 ≤ r) (h1 : r < σ 5 0) : 0 ≤ rc_t σ n p w c row r ∧ rc_t σ n p w c row r ≤ 20 := by
  have b := mb_nr hB
  have h := m_roomIn_rng hB (n := n) (c := c) ⟨h0, by omega⟩ hp hw (hL.1 r h0 h1)
  unfold rc_t
  split <;> omega
theorem rc_sum_rng {σ : sT} (hB : MB σ) (hL : ML σ) {n p w c : Int} (hp : 0 ≤ p) (hw : 0 ≤ w) (row : Int) {r : Int} (h0 : 0 ≤ r) (h1 : r ≤ σ 5 0) : 0 ≤ sm (rc_t σ n p w c row) r ∧ sm (rc_t σ n p w c row) r ≤ 160 := by
  have b := mb_nr hB
  have h := sm_le (f := rc_t σ n p w c row) (a := 0) (b := 20) h0 (fun k a c' => rc_t_rng hB hL (n := n) (c := c) hp hw row a (by omega))
  omega
theorem rc_row_rng {σ : sT} (hB : MB σ) (hL : ML σ) {n p w c : Int} (hp : 0 ≤ p) (hw : 0 ≤ w) {row : Int} (h0 : 0 ≤ row) (h1 : row < 4) : 0 ≤ rc_row σ n p w c row ∧ rc_row σ n p w c row ≤ 160 := by
  have b := mb_nr hB
  have h := rc_sum_rng hB hL (n := n) (c := c) hp hw row b.1 (Int.le_refl _)
  have l := hL.2.1 row h0 h1
  have h2 := m_wi_rng (m := sm (rc_t σ n p w c row) (σ 5 0)) (q := σ 7 row - m_rowWeighs σ row) (u := w) h.1 (by omega) hw
  have h3 := m_wi_rng (m := m_wi (sm (rc_t σ n p w c row) (σ 5 0)) (σ 7 row - m_rowWeighs σ row) w) (q := σ 6 row - m_rowHeats σ row) (u := p) h2.1 (by omega) hp
  unfold rc_row
  omega
theorem rc_rows_rng {σ : sT} (hB : MB σ) (hL : ML σ) {n p w c : Int} (hp : 0 ≤ p) (hw : 0 ≤ w) {row : Int} (h0 : 0 ≤ row) (h1 : row ≤ 4) : 0 ≤ sm (rc_row σ n p w c) row ∧ sm (rc_row σ n p w c) row ≤ 640 := by
  have h := sm_le (f := rc_row σ n p w c) (a := 0) (b := 160) h0 (fun k a c' => rc_row_rng hB hL (n := n) (c := c) hp hw a (by omega))
  omega
theorem rc_f_rng {σ : sT} (p c f : Int) {a : Int} (ha : 0 ≤ a) (hq : 0 ≤ σ 8 f - m_worst σ (-1) f) (hp : 0 ≤ p) : 0 ≤ rc_f σ p c f a ∧ rc_f σ p c f a ≤ a := by
  unfold rc_f
  split
  · exact m_wi_rng ha hq hp
  · omega
theorem m_run_0 (σ : sT) (v r n s : Int) : m_run (su σ 0 0 v) r n s = m_run σ r n s := by
  unfold m_run
  generalize s.toNat = q
  induction q with
  | zero => rfl
  | succ q ih =>
    show (let z := m_runN (su σ 0 0 v) r n q; let run := if m_inSlot (su σ 0 0 v) r q = -1 then z.2 + 1 else 0; if run = n then (z.1 + 1, 0) else (z.1, run)) = _
    rw [ih]
    rfl
theorem m_roomIn_0 (σ : sT) (v r n p w c : Int) : m_roomIn (su σ 0 0 v) r n p w c = m_roomIn σ r n p w c := by
  show m_rf (su σ 0 0 v) r p c 1 (m_rf (su σ 0 0 v) r p c 0 (m_wi (m_run (su σ 0 0 v) r n (σ 2 r)).1 (σ 3 r - m_weighs (su σ 0 0 v) r) w)) = _
  rw [m_run_0]
  rfl
