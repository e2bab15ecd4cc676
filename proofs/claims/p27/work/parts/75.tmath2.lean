/-! ===== the law: room, sets of racks, states that show the same ===== -/
section TN
variable {σ σ' : sT} {n p w c : Int}
theorem rf_ge (h : IV σ) {r f a x : Int} (r0 : 0 ≤ r ∧ r < σ 5 0) (hf : f = 0 ∨ f = 1) (hp : 0 ≤ p) : x ≤ m_rf σ r p c f a ↔ x ≤ a ∧ x * m_pw c f p ≤ σ 4 r - m_worst σ r f := by
  have hl := h.2.2.2.2.2.1 r r0.1 r0.2
  have h0 : 0 ≤ σ 4 r - m_worst σ r f := by rcases hf with rfl | rfl <;> omega
  unfold m_rf m_pw
  by_cases z : cdd c f = true
  · rw [if_pos z, if_pos z]; exact wi_ge hp h0
  · rw [if_neg z, if_neg z, Int.mul_zero]; exact ⟨fun y => ⟨y, h0⟩, fun y => y.1⟩
theorem rcf_ge (h : IV σ) {f a x : Int} (hf : f = 0 ∨ f = 1) (hp : 0 ≤ p) : x ≤ rc_f σ p c f a ↔ x ≤ a ∧ x * m_pw c f p ≤ σ 8 f - m_worst σ (-1) f := by
  have hl := h.2.2.2.2.2.2.2
  have h0 : 0 ≤ σ 8 f - m_worst σ (-1) f := by rcases hf with rfl | rfl <;> omega
  unfold rc_f m_pw
  by_cases z : cdd c f = true
  · rw [if_pos z, if_pos z]; exact wi_ge hp h0
  · rw [if_neg z, if_neg z, Int.mul_zero]; exact ⟨fun y => ⟨y, h0⟩, fun y => y.1⟩
theorem roomIn_ge (h : IV σ) (hkd : cKD n p w c) {r x : Int} (r0 : 0 ≤ r ∧ r < σ 5 0) : x ≤ m_roomIn σ r n p w c ↔ x ≤ (m_run σ r n (σ 2 r)).1 ∧ x * w ≤ σ 3 r - m_weighs σ r ∧ x * m_pw c 0 p ≤ σ 4 r - m_worst σ r 0 ∧ x * m_pw c 1 p ≤ σ 4 r - m_worst σ r 1 := by
  have hl := h.2.2.2.2.2.1 r r0.1 r0.2
  unfold m_roomIn
  rw [rf_ge h r0 (Or.inr rfl) (by omega), rf_ge h r0 (Or.inl rfl) (by omega), wi_ge (by omega) (by omega)]
  constructor
  · rintro ⟨⟨⟨a, b⟩, c⟩, d⟩; exact ⟨a, b, c, d⟩
  · rintro ⟨a, b, c, d⟩; exact ⟨⟨⟨a, b⟩, c⟩, d⟩
theorem row_ge (h : IV σ) (hkd : cKD n p w c) {row x : Int} (w0 : 0 ≤ row ∧ row < 4) : x ≤ rc_row σ n p w c row ↔ x ≤ sm (rc_t σ n p w c row) (σ 5 0) ∧ x * w ≤ σ 7 row - m_rowWeighs σ row ∧ x * p ≤ σ 6 row - m_rowHeats σ row := by
  have hl := h.2.2.2.2.2.2.1 row w0.1 w0.2
  unfold rc_row
  rw [wi_ge (by omega) (by omega), wi_ge (by omega) (by omega)]
  constructor
  · rintro ⟨⟨a, b⟩, c⟩; exact ⟨a, b, c⟩
  · rintro ⟨a, b, c⟩; exact ⟨⟨a, b⟩, c⟩
theorem all_ge (h : IV σ) (hkd : cKD n p w c) {x : Int} : x ≤ rc_all σ n p w c ↔ x ≤ sm (rc_row σ n p w c) 4 ∧ x * m_pw c 0 p ≤ σ 8 0 - m_worst σ (-1) 0 ∧ x * m_pw c 1 p ≤ σ 8 1 - m_worst σ (-1) 1 := by
  unfold rc_all
  rw [rcf_ge h (Or.inr rfl) (by omega), rcf_ge h (Or.inl rfl) (by omega)]
  constructor
  · rintro ⟨⟨a, b⟩, c⟩; exact ⟨a, b, c⟩
  · rintro ⟨a, b, c⟩; exact ⟨⟨a, b⟩, c⟩
theorem run_rng (h : IV σ) {r : Int} (r0 : 0 ≤ r ∧ r < σ 5 0) : 0 ≤ (m_run σ r n (σ 2 r)).1 ∧ (m_run σ r n (σ 2 r)).1 ≤ 20 := by
  have hn := mb_nr h.1
  have hs := lk_slots h.1 r0.1 (by omega)
  have := m_run_rng σ r n hs.1
  omega
theorem roomIn_rng (h : IV σ) (hkd : cKD n p w c) {r : Int} (r0 : 0 ≤ r ∧ r < σ 5 0) : 0 ≤ m_roomIn σ r n p w c ∧ m_roomIn σ r n p w c ≤ 20 := by
  have hr := run_rng (n := n) h r0
  have hl := h.2.2.2.2.2.1 r r0.1 r0.2
  constructor
  · refine (roomIn_ge h hkd r0).mpr ⟨hr.1, ?_, ?_, ?_⟩ <;> rw [Int.zero_mul] <;> omega
  · have := ((roomIn_ge h hkd (x := m_roomIn σ r n p w c) r0).mp (Int.le_refl _)).1
    omega
theorem rct_rng (h : IV σ) (hkd : cKD n p w c) (row : Int) {r : Int} (r0 : 0 ≤ r ∧ r < σ 5 0) : 0 ≤ rc_t σ n p w c row r ∧ rc_t σ n p w c row r ≤ 20 := by
  have := roomIn_rng h hkd r0
  unfold rc_t
  split <;> omega
theorem row_rng (h : IV σ) (hkd : cKD n p w c) {row : Int} (w0 : 0 ≤ row ∧ row < 4) : 0 ≤ rc_row σ n p w c row ∧ rc_row σ n p w c row ≤ 160 := by
  have hn := mb_nr h.1
  have hl := h.2.2.2.2.2.2.1 row w0.1 w0.2
  have hs := sm_le (f := rc_t σ n p w c row) (a := 0) (b := 20) hn.1 (fun k a b => rct_rng h hkd row ⟨a, b⟩)
  constructor
  · refine (row_ge h hkd w0).mpr ⟨by omega, ?_, ?_⟩ <;> rw [Int.zero_mul] <;> omega
  · have := ((row_ge h hkd (x := rc_row σ n p w c row) w0).mp (Int.le_refl _)).1
    omega
theorem all_rng (h : IV σ) (hkd : cKD n p w c) : 0 ≤ rc_all σ n p w c ∧ rc_all σ n p w c ≤ 640 := by
  have hs := sm_le (f := rc_row σ n p w c) (a := 0) (b := 160) (n := 4) (by decide) (fun k a b => row_rng h hkd ⟨a, b⟩)
  have hl := h.2.2.2.2.2.2.2
  constructor
  · refine (all_ge h hkd).mpr ⟨by omega, ?_, ?_⟩ <;> rw [Int.zero_mul] <;> omega
  · have := ((all_ge h hkd (x := rc_all σ n p w c)).mp (Int.le_refl _)).1
    omega
/-- there is room just if it fits in some rack -/
theorem room_fits (h : IV σ) (hkd : cKD n p w c) : 1 ≤ rc_all σ n p w c ↔ ∃ r, 0 ≤ r ∧ r < σ 5 0 ∧ m_slotIn σ r n p w c ≠ -1 := by
  have hn := mb_nr h.1
  have row_in : ∀ r, 0 ≤ r → r < σ 5 0 → 0 ≤ σ 1 r ∧ σ 1 r < 4 := fun r a b => by
    have d : (0 : Int) ≤ σ 1 r ∧ σ 1 r ≤ 3 := h.1 1 r a (show r < (8 : Int) by omega)
    omega
  rw [all_ge h hkd, Int.one_mul, Int.one_mul, sm_pos (by decide) (fun k a b => (row_rng h hkd ⟨a, b⟩).1)]
  constructor
  · rintro ⟨⟨row, w0, w1, hw⟩, f0, f1⟩
    rw [row_ge h hkd ⟨w0, w1⟩, Int.one_mul, Int.one_mul, sm_pos hn.1 (fun k a b => (rct_rng h hkd row ⟨a, b⟩).1)] at hw
    obtain ⟨⟨r, r0, r1, hr⟩, q1, q2⟩ := hw
    unfold rc_t at hr
    by_cases z : σ 1 r = row
    · rw [if_pos z, roomIn_ge h hkd ⟨r0, r1⟩, Int.one_mul, Int.one_mul, Int.one_mul] at hr
      refine ⟨r, r0, r1, (slotIn_iff h.1 ⟨r0, r1⟩ (by omega)).mpr ⟨borne_iff.mpr ?_, hr.1⟩⟩
      rw [z]
      omega
    · rw [if_neg z] at hr
      omega
  · rintro ⟨r, r0, r1, hr⟩
    have hs := (slotIn_iff h.1 ⟨r0, r1⟩ (by omega)).mp hr
    have hb := borne_iff.mp hs.1
    have hrow := row_in r r0 r1
    refine ⟨⟨σ 1 r, hrow.1, hrow.2, ?_⟩, by omega, by omega⟩
    rw [row_ge h hkd hrow, Int.one_mul, Int.one_mul, sm_pos hn.1 (fun k a b => (rct_rng h hkd _ ⟨a, b⟩).1)]
    refine ⟨⟨r, r0, r1, ?_⟩, by omega, by omega⟩
    unfold rc_t
    rw [if_pos rfl, roomIn_ge h hkd ⟨r0, r1⟩, Int.one_mul, Int.one_mul, Int.one_mul]
    exact ⟨hs.2, by omega, by omega, by omega⟩
/-- with two cords there is no more room than with one -/
theorem room_two (h : IV σ) (hkd : cKD n p w c) : rc_all σ n p w 2 ≤ rc_all σ n p w c := by
  have hn := mb_nr h.1
  have c2 : ∀ f, cdd 2 f = true := fun f => by unfold cdd; simp
  have rf : ∀ r f a b, a ≤ b → m_rf σ r p 2 f a ≤ m_rf σ r p c f b := by
    intro r f a b hab
    unfold m_rf
    rw [if_pos (c2 f)]
    by_cases z : cdd c f = true
    · rw [if_pos z]; exact wi_mono (by omega) hab
    · rw [if_neg z]; exact Int.le_trans (wi_le (by omega)) hab
  have rcf : ∀ f a b, a ≤ b → rc_f σ p 2 f a ≤ rc_f σ p c f b := by
    intro f a b hab
    unfold rc_f
    rw [if_pos (c2 f)]
    by_cases z : cdd c f = true
    · rw [if_pos z]; exact wi_mono (by omega) hab
    · rw [if_neg z]; exact Int.le_trans (wi_le (by omega)) hab
  have ri : ∀ r, m_roomIn σ r n p w 2 ≤ m_roomIn σ r n p w c := fun r => rf r 1 _ _ (rf r 0 _ _ (Int.le_refl _))
  have rr : ∀ row, rc_row σ n p w 2 row ≤ rc_row σ n p w c row := by
    intro row
    refine wi_mono (by omega) (wi_mono (by omega) (sm_mono hn.1 (fun k a b => ?_)))
    unfold rc_t
    by_cases z : σ 1 k = row
    · rw [if_pos z, if_pos z]; exact ri k
    · rw [if_neg z, if_neg z]; exact Int.le_refl _
  exact rcf 1 _ _ (rcf 0 _ _ (sm_mono (by decide) (fun k a b => rr k)))
/-- sets of racks -/
theorem p2_s {k : Int} (h : 0 ≤ k) : p2 (k + 1) = 2 * p2 k := by
  unfold p2
  rw [show (k + 1).toNat = k.toNat + 1 by omega, Int.pow_succ]
  omega
theorem p2_pos {k : Int} : 0 < p2 k := by
  unfold p2
  exact Int.pow_pos (by decide)
theorem p2_add {j d : Int} (hj : 0 ≤ j) (hd : 0 ≤ d) : p2 (j + d) = p2 d * p2 j := by
  refine sm_ind (p := fun d => p2 (j + d) = p2 d * p2 j) d ?_ (fun k a _ ih => ?_) hd
  · rw [Int.add_zero]; show p2 j = 1 * p2 j; rw [Int.one_mul]
  · rw [← Int.add_assoc, p2_s (by omega), ih, p2_s a, Int.mul_assoc]
theorem set_rng {b : Int → Int} (hb : ∀ r, b r = 0 ∨ b r = p2 r) {k : Int} (hk : 0 ≤ k) : 0 ≤ sm b k ∧ sm b k < p2 k := by
  refine sm_ind (p := fun k => 0 ≤ sm b k ∧ sm b k < p2 k) k ⟨Int.le_refl _, (by decide : (0 : Int) < 1)⟩ (fun j a _ ih => ?_) hk
  rw [sm_s _ a, p2_s a]
  have h1 : 0 < p2 j := p2_pos
  rcases hb j with z | z <;> rw [z] <;> omega
theorem set_bit {b : Int → Int} (hb : ∀ r, b r = 0 ∨ b r = p2 r) {j k : Int} (hj : 0 ≤ j) (hk : j < k) : sm b k / p2 j % 2 = if b j = 0 then 0 else 1 := by
  have key : ∀ d, 0 ≤ d → sm b (j + 1 + d) / p2 j % 2 = if b j = 0 then 0 else 1 := by
    intro d hd
    have hp : 0 < p2 j := p2_pos
    refine sm_ind (p := fun d => sm b (j + 1 + d) / p2 j % 2 = if b j = 0 then 0 else 1) d ?_ (fun i a _ ih => ?_) hd
    · rw [Int.add_zero, sm_s _ hj]
      have h1 := set_rng hb hj
      rcases hb j with z | z
      · rw [z, Int.add_zero, if_pos rfl, Int.ediv_eq_zero_of_lt h1.1 h1.2]
        rfl
      · rw [z, if_neg (by omega)]
        have e : (sm b j + p2 j) / p2 j = 1 := by
          have h2 := Int.add_mul_ediv_right (sm b j) 1 (show p2 j ≠ 0 by omega)
          rw [Int.one_mul] at h2
          rw [h2, Int.ediv_eq_zero_of_lt h1.1 h1.2]
          rfl
        rw [e]
        rfl
    · rw [← Int.add_assoc, sm_s _ (by omega)]
      rcases hb (j + 1 + i) with z | z
      · rw [z, Int.add_zero]; exact ih
      · have e : p2 (j + 1 + i) = 2 * p2 i * p2 j := by
          rw [show j + 1 + i = j + (i + 1) by omega, p2_add hj (by omega), p2_s a]
        have h2 := Int.add_mul_ediv_right (sm b (j + 1 + i)) (2 * p2 i) (show p2 j ≠ 0 by omega)
        rw [z, e, h2]
        generalize sm b (j + 1 + i) / p2 j = y at *
        omega
  have := key (k - (j + 1)) (by omega)
  rw [show j + 1 + (k - (j + 1)) = k by omega] at this
  exact this
theorem rft (σ : sT) (n p w c : Int) : ∀ r, rF_t σ n p w c r = 0 ∨ rF_t σ n p w c r = p2 r := fun r => by unfold rF_t; split <;> simp
theorem rf_rng (h : IV σ) : 0 ≤ RF σ n p w c ∧ RF σ n p w c < p2 (σ 5 0) ∧ p2 (σ 5 0) ≤ 256 := by
  have hn := mb_nr h.1
  have h1 := set_rng (rft σ n p w c) hn.1
  refine ⟨h1.1, h1.2, ?_⟩
  rcases (show σ 5 0 = 0 ∨ σ 5 0 = 1 ∨ σ 5 0 = 2 ∨ σ 5 0 = 3 ∨ σ 5 0 = 4 ∨ σ 5 0 = 5 ∨ σ 5 0 = 6 ∨ σ 5 0 = 7 ∨ σ 5 0 = 8 by omega) with z | z | z | z | z | z | z | z | z <;> rw [z] <;> decide
theorem rf_bit {j : Int} (hj : 0 ≤ j ∧ j < σ 5 0) : RF σ n p w c / p2 j % 2 = if m_slotIn σ j n p w c = -1 then 0 else 1 := by
  unfold RF
  rw [set_bit (rft σ n p w c) hj.1 hj.2]
  unfold rF_t
  have hp : 0 < p2 j := p2_pos
  by_cases z : m_slotIn σ j n p w c = -1
  · rw [if_pos z, if_pos rfl, if_pos z]
  · rw [if_neg z, if_neg (by omega), if_neg z]
theorem rf_0 (h : IV σ) : RF σ n p w c ≠ 0 ↔ ∃ r, 0 ≤ r ∧ r < σ 5 0 ∧ m_slotIn σ r n p w c ≠ -1 := by
  have hn := mb_nr h.1
  have h1 := set_rng (rft σ n p w c) hn.1
  have e : RF σ n p w c ≠ 0 ↔ 1 ≤ sm (rF_t σ n p w c) (σ 5 0) := by
    show sm (rF_t σ n p w c) (σ 5 0) ≠ 0 ↔ _
    omega
  rw [e, sm_pos hn.1 (fun k a b => by have hp : 0 < p2 k := p2_pos; rcases rft σ n p w c k with z | z <;> omega)]
  constructor
  · rintro ⟨r, a, b, d⟩
    refine ⟨r, a, b, fun z => ?_⟩
    unfold rF_t at d
    rw [if_pos z] at d
    omega
  · rintro ⟨r, a, b, d⟩
    refine ⟨r, a, b, ?_⟩
    have hp : 0 < p2 r := p2_pos
    unfold rF_t
    rw [if_neg d]
    omega
theorem prA_cases (h : IV σ) : (m_prA σ n p w c = -1 ∧ ∀ r, 0 ≤ r → r < σ 5 0 → m_slotIn σ r n p w c = -1) ∨ (0 ≤ m_prA σ n p w c ∧ m_prA σ n p w c < σ 5 0 ∧ m_slotIn σ (m_prA σ n p w c) n p w c ≠ -1 ∧ ∀ r, 0 ≤ r → r < m_prA σ n p w c → m_slotIn σ r n p w c = -1) := by
  have hn := mb_nr h.1
  rcases ff_cases (fun r => decide (m_slotIn σ r n p w c ≠ -1)) hn.1 with z | z
  · refine Or.inl ⟨z.1, fun r a b => ?_⟩
    have := of_decide_eq_false (z.2 r a b)
    omega
  · refine Or.inr ⟨z.1, z.2.1, of_decide_eq_true z.2.2.1, fun r a b => ?_⟩
    have := of_decide_eq_false (z.2.2.2 r a b)
    omega
theorem prA_rf (h : IV σ) : m_prA σ n p w c ≠ -1 ↔ RF σ n p w c ≠ 0 := by
  rw [rf_0 h]
  rcases prA_cases (n := n) (p := p) (w := w) (c := c) h with z | z
  · constructor
    · intro y; exact absurd z.1 y
    · rintro ⟨r, a, b, d⟩; exact absurd (z.2 r a b) d
  · exact ⟨fun _ => ⟨_, z.1, z.2.1, z.2.2.1⟩, fun _ => by omega⟩
/-- states that show the same, but for the next number -/
def Ag8 (σ σ' : sT) : Prop := (∀ (f : Nat) (z : Int), 1 ≤ f → f ≤ 9 → σ' f z = σ f z) ∧ σ' 17 0 = σ 17 0 ∧ ∀ (f : Nat) (j : Int), 10 ≤ f → f ≤ 16 → 0 ≤ j → j < σ 17 0 → σ' f j = σ f j
theorem Ag.to8 (a : Ag σ σ') : Ag8 σ σ' := ⟨a.1, a.2.1, a.2.2.2⟩
theorem Ag8.to (a : Ag8 σ σ') : Ag σ (su σ' 18 0 (σ 18 0)) := ⟨fun f z x y => by rw [su_n (by omega)]; exact a.1 f z x y, a.2.1, rfl, fun f j x y u v => by rw [su_n (by omega)]; exact a.2.2 f j x y u v⟩
theorem Ag8.we (a : Ag8 σ σ') (hB : MB σ) (r : Int) : m_weighs σ' r = m_weighs σ r := a.to.we hB r
theorem Ag8.wo (a : Ag8 σ σ') (hB : MB σ) (r f : Int) : m_worst σ' r f = m_worst σ r f := a.to.wo hB r f
theorem Ag8.rw (a : Ag8 σ σ') (hB : MB σ) (r : Int) : m_rowWeighs σ' r = m_rowWeighs σ r := a.to.rw hB r
theorem Ag8.rh (a : Ag8 σ σ') (hB : MB σ) (r : Int) : m_rowHeats σ' r = m_rowHeats σ r := a.to.rh hB r
theorem Ag8.is (a : Ag8 σ σ') (hB : MB σ) (r s : Int) : m_inSlot σ' r s = m_inSlot σ r s := a.to.is hB r s
theorem Ag8.si (a : Ag8 σ σ') (hB : MB σ) (r n p w c : Int) : m_slotIn σ' r n p w c = m_slotIn σ r n p w c := a.to.si hB r n p w c
theorem Ag8.rf (a : Ag8 σ σ') (hB : MB σ) (n p w c : Int) : RF σ' n p w c = RF σ n p w c := by
  have hn := mb_nr hB
  unfold RF
  rw [a.1 5 0 (by decide) (by decide)]
  exact sm_cong hn.1 (fun k x y => by unfold rF_t; rw [a.si hB])
theorem Ag8.rc (a : Ag8 σ σ') (hB : MB σ) (n p w c : Int) : rc_all σ' n p w c = rc_all σ n p w c := by
  have hn := mb_nr hB
  have er : ∀ r, 0 ≤ r → r < σ 5 0 → m_roomIn σ' r n p w c = m_roomIn σ r n p w c := fun r x y => by
    have hs := lk_slots hB x (by omega)
    unfold m_roomIn m_rf
    rw [a.1 2 r (by decide) (by decide), a.1 3 r (by decide) (by decide), a.1 4 r (by decide) (by decide), a.we hB, a.wo hB, a.wo hB, run_e σ' r n hs.1, run_e σ r n hs.1, rn_cong (e' := m_fe σ r) hs.1 (fun j u v => by unfold m_fe; rw [a.is hB])]
  have ew : ∀ row, rc_row σ' n p w c row = rc_row σ n p w c row := fun row => by
    unfold rc_row
    rw [a.1 7 row (by decide) (by decide), a.1 6 row (by decide) (by decide), a.rw hB, a.rh hB, a.1 5 0 (by decide) (by decide), sm_cong (g := rc_t σ n p w c row) hn.1 (fun k x y => by unfold rc_t; rw [a.1 1 k (by decide) (by decide), er k x y])]
  unfold rc_all rc_f
  rw [a.wo hB, a.wo hB, a.1 8 0 (by decide) (by decide), a.1 8 1 (by decide) (by decide), sm_cong (g := rc_row σ n p w c) (by decide) (fun k _ _ => ew k)]
/-- the last machine is found, and goes again -/
theorem Grown.find {R S : Int} (g : Grown σ σ' n p w c R S) (h' : IV σ') (hm : 0 ≤ σ 17 0) : m_find σ' (σ 18 0) = σ 17 0 := by
  rw [← g.2.2.2.2.1]
  exact find_at h'.1 h'.2.2.2.2.1 hm (by rw [g.2.1]; omega)
theorem sh_same (σ : sT) (a : Int) : m_sh σ a a = σ := by
  funext f j
  unfold m_sh
  split
  · split
    · omega
    · rfl
  · rfl
theorem Grown.out {R S : Int} (g : Grown σ σ' n p w c R S) (h : IV σ) (h' : IV σ') : Ag8 σ (tO_s σ' (σ 18 0)) ∧ tO_s σ' (σ 18 0) 18 0 = σ 18 0 + 1 ∧ fnd_c (tO_s σ' (σ 18 0)) (σ 18 0) = 1 := by
  have hm := mb_nm h.1
  have hf := g.find h' hm.1
  have hc : fnd_c σ' (σ 18 0) = 0 := by unfold fnd_c; rw [hf]; exact if_neg (by omega)
  have e : tO_s σ' (σ 18 0) = su (su σ' 0 0 0) 17 0 (σ 17 0) := by
    unfold tO_s
    rw [if_pos hc, hf, g.2.1, show σ 17 0 + 1 - 1 = σ 17 0 by omega, sh_same, hc]
  rw [e]
  have a8 : Ag8 σ (su (su σ' 0 0 0) 17 0 (σ 17 0)) := ⟨fun f z x y => by rw [su_n (by omega), su_n (by omega)]; exact g.1 f z x y, rfl, fun f j x y u v => by rw [su_n (by omega), su_n (by omega)]; exact g.2.2.2.1 f j x y u v⟩
  refine ⟨a8, g.2.2.1, ?_⟩
  unfold fnd_c
  refine if_pos (ff_none (fun j x y => decide_eq_false ?_))
  have y' : j < σ 17 0 := y
  rw [a8.2.2 10 j (by decide) (by decide) x y']
  have := h.2.2.2.2.1.2 j x y'
  omega
end TN
