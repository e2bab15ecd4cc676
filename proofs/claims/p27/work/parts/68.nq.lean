/-! ===== the law: what the class answers it ===== -/
theorem find_at {σ : sT} (hB : MB σ) (hN : NI σ) {k : Int} (h0 : 0 ≤ k) (h1 : k < σ 17 0) : m_find σ (σ 10 k) = k :=
  ff_at h0 h1 (decide_eq_true rfl) (fun j a b => decide_eq_false (fun z => by have := hN.1 j k a b h1; omega))
theorem find_v {σ : sT} (hB : MB σ) {num : Int} (h : m_find σ num ≠ -1) : 0 ≤ m_find σ num ∧ m_find σ num < σ 17 0 ∧ σ 10 (m_find σ num) = num := by
  have hm := mb_nm hB
  rcases ff_cases (fun k => decide (σ 10 k = num)) hm.1 with z | z
  · exact absurd z.1 h
  · exact ⟨z.1, z.2.1, of_decide_eq_true z.2.2.1⟩
/-- the number of the first machine behind a way, -1 without -/
def nxt (σ : sT) (bh : Int) : Int := if m_nb σ bh (σ 17 0) = -1 then -1 else σ 10 (m_nb σ bh (σ 17 0))
def PW (σ : sT) (r f : Int) : Int := sm (pwt σ r f) (σ 17 0)
def HO (σ : sT) (row : Int) : Int := sm (hO_t σ row) (σ 17 0)
def RF (σ : sT) (n p w c : Int) : Int := sm (rF_t σ n p w c) (σ 5 0)
def mAt (σ : sT) (r s : Int) : Int := if m_inSlot σ r s = -1 then -1 else σ 10 (m_inSlot σ r s)
section NQ
variable {x : Nat} {h : fH} {σ : sT} {kf : fH}
set_option maxRecDepth 100000 in
theorem N_racks (l : Launch) (g : gT) (hX : SL g x h σ kf)  : CM l g yX4_racks cX4_racks 1 (some .int) { frames := 2, cells := 0, slots := 0, locals := 40 } [.ref x] h (fun v h1 => v = some (.int (iI (σ 5 0))) ∧ SL g x h1 (σ) kf) noX := by
  obtain ⟨h0, hX0, rfl, hd⟩ := hX
  obtain ⟨hB, hI, hAP, hNO, hNI, hML⟩ := hX0.iv
  have hm := mb_nm hB
  have hn := mb_nr hB
  have eC : (0 : Int) = 0 := rfl
  have h9 := CM.ask (k := kf) hB (J_racks l g hX0) (fun _ _ z => z) hd
  exact h9
set_option maxRecDepth 100000 in
theorem N_machines (l : Launch) (g : gT) (hX : SL g x h σ kf)  : CM l g yX4_machines cX4_machines 1 (some .int) { frames := 2, cells := 0, slots := 0, locals := 40 } [.ref x] h (fun v h1 => v = some (.int (iI (σ 17 0))) ∧ SL g x h1 (σ) kf) noX := by
  obtain ⟨h0, hX0, rfl, hd⟩ := hX
  obtain ⟨hB, hI, hAP, hNO, hNI, hML⟩ := hX0.iv
  have hm := mb_nm hB
  have hn := mb_nr hB
  have eC : (0 : Int) = 0 := rfl
  have h9 := CM.ask (k := kf) hB (J_machines l g hX0) (fun _ _ z => z) hd
  exact h9
set_option maxRecDepth 100000 in
theorem N_hasFailed (l : Launch) (g : gT) (hX : SL g x h σ kf) (f : Int) (f0 : 0 ≤ f ∧ f ≤ 1) : CM l g yX4_hasFailed cX4_hasFailed 2 (some .boolean) { frames := 12, cells := 1, slots := 6, locals := 182 } [.ref x, .int (iI f)] h (fun v h1 => v = some (.int (iI (bI (decide (σ 9 f = 1))))) ∧ SL g x h1 (σ) kf) noX := by
  obtain ⟨h0, hX0, rfl, hd⟩ := hX
  obtain ⟨hB, hI, hAP, hNO, hNI, hML⟩ := hX0.iv
  have hm := mb_nm hB
  have hn := mb_nr hB
  have eC : c01 (inn f 0 1) = 0 := c01_t (inn_iff.mpr f0)
  have h9 := CM.ask (k := kf) hB (J_hasFailed l g hX0 f (by omega)) (fun E h1 hq => by obtain ⟨_, hq⟩ := hq; have e := hq.1; omega) hd
  rw [show (decide (c01 (inn f 0 1) = 0) && decide (σ 9 f = 1)) = decide (σ 9 f = 1) from by rw [eC]; rfl] at h9
  exact h9
set_option maxRecDepth 100000 in
theorem N_rackOf (l : Launch) (g : gT) (hX : SL g x h σ kf) (num : Int) {k : Int} (hf : m_find σ num = k) (k0 : 0 ≤ k) (num_r : -2147483648 ≤ num ∧ num ≤ 2147483647) : CM l g yX4_rackOf cX4_rackOf 2 (some .int) { frames := 12, cells := 1, slots := 6, locals := 183 } [.ref x, .int (iI num)] h (fun v h1 => v = some (.int (iI (σ 15 k))) ∧ SL g x h1 (σ) kf) noX := by
  obtain ⟨h0, hX0, rfl, hd⟩ := hX
  obtain ⟨hB, hI, hAP, hNO, hNI, hML⟩ := hX0.iv
  have hm := mb_nm hB
  have hn := mb_nr hB
  have eC : fnd_c σ num = 0 := if_neg (by omega)
  have h9 := CM.ask (k := kf) hB (J_rackOf l g hX0 num (by omega)) (fun E h1 hq => by obtain ⟨_, hq⟩ := hq; have e := hq.1; omega) hd
  rw [if_pos eC, hf] at h9
  exact h9
set_option maxRecDepth 100000 in
theorem N_slotOf (l : Launch) (g : gT) (hX : SL g x h σ kf) (num : Int) {k : Int} (hf : m_find σ num = k) (k0 : 0 ≤ k) (num_r : -2147483648 ≤ num ∧ num ≤ 2147483647) : CM l g yX4_slotOf cX4_slotOf 2 (some .int) { frames := 12, cells := 1, slots := 6, locals := 183 } [.ref x, .int (iI num)] h (fun v h1 => v = some (.int (iI (σ 16 k))) ∧ SL g x h1 (σ) kf) noX := by
  obtain ⟨h0, hX0, rfl, hd⟩ := hX
  obtain ⟨hB, hI, hAP, hNO, hNI, hML⟩ := hX0.iv
  have hm := mb_nm hB
  have hn := mb_nr hB
  have eC : fnd_c σ num = 0 := if_neg (by omega)
  have h9 := CM.ask (k := kf) hB (J_slotOf l g hX0 num (by omega)) (fun E h1 hq => by obtain ⟨_, hq⟩ := hq; have e := hq.1; omega) hd
  rw [if_pos eC, hf] at h9
  exact h9
set_option maxRecDepth 100000 in
theorem N_isDark (l : Launch) (g : gT) (hX : SL g x h σ kf) (num : Int) {k : Int} (hf : m_find σ num = k) (k0 : 0 ≤ k) (num_r : -2147483648 ≤ num ∧ num ≤ 2147483647) : CM l g yX4_isDark cX4_isDark 2 (some .boolean) { frames := 12, cells := 1, slots := 6, locals := 183 } [.ref x, .int (iI num)] h (fun v h1 => v = some (.int (iI (bI (m_dark σ k)))) ∧ SL g x h1 (σ) kf) noX := by
  obtain ⟨h0, hX0, rfl, hd⟩ := hX
  obtain ⟨hB, hI, hAP, hNO, hNI, hML⟩ := hX0.iv
  have hm := mb_nm hB
  have hn := mb_nr hB
  have eC : fnd_c σ num = 0 := if_neg (by omega)
  have h9 := CM.ask (k := kf) hB (J_isDark l g hX0 num (by omega)) (fun E h1 hq => by obtain ⟨_, hq⟩ := hq; have e := hq.1; omega) hd
  rw [show (decide (fnd_c σ num = 0) && m_dark σ (m_find σ num)) = m_dark σ k from by rw [eC, hf]; rfl] at h9
  exact h9
set_option maxRecDepth 100000 in
theorem N_machineAt (l : Launch) (g : gT) (hX : SL g x h σ kf) (r : Int) (s : Int) (r0 : 0 ≤ r ∧ r < σ 5 0) (s0 : 0 ≤ s ∧ s < σ 2 r) : CM l g yX4_machineAt cX4_machineAt 4 (some .int) { frames := 11, cells := 2, slots := 12, locals := 161 } [.ref x, .int (iI r), .int (iI s)] h (fun v h1 => v = some (.int (iI (mAt σ r s))) ∧ SL g x h1 (σ) kf) noX := by
  obtain ⟨h0, hX0, rfl, hd⟩ := hX
  obtain ⟨hB, hI, hAP, hNO, hNI, hML⟩ := hX0.iv
  have hm := mb_nm hB
  have hn := mb_nr hB
  have hsl := lk_slots hB r0.1 (by omega)
  have eC : c01 (mA_ok σ r s) = 0 := c01_t (by have := lk_slots hB r0.1 (by omega); unfold mA_ok; rw [show okR σ r = true from inn_iff.mpr ⟨r0.1, by omega⟩, inn_iff.mpr ⟨s0.1, by omega⟩]; rfl)
  have h9 := CM.ask (k := kf) hB (J_machineAt l g hX0 r s (by omega) (by omega)) (fun E h1 hq => by obtain ⟨_, hq⟩ := hq; have e := hq.1; omega) hd
  rw [show mA_a σ r s = mAt σ r s from if_pos eC] at h9
  exact h9
set_option maxRecDepth 100000 in
theorem N_next0 (l : Launch) (g : gT) (hX : SL g x h σ kf)  : CM l g yX4_next cX4_next 3 (some .int) { frames := 12, cells := 1, slots := 6, locals := 183 } [.ref x, .int (iI (-1))] h (fun v h1 => v = some (.int (iI (nxt σ (-1)))) ∧ SL g x h1 (σ) kf) noX := by
  obtain ⟨h0, hX0, rfl, hd⟩ := hX
  obtain ⟨hB, hI, hAP, hNO, hNI, hML⟩ := hX0.iv
  have hm := mb_nm hB
  have hn := mb_nr hB
  have eC : nx_c σ (-1) = 0 := if_neg (fun z => z.1 rfl)
  have h9 := CM.ask (k := kf) hB (J_next l g hX0 (-1) (by omega)) (fun E h1 hq => by obtain ⟨_, hq⟩ := hq; have e := hq.1; omega) hd
  rw [show nx_a σ (-1) = nxt σ (-1) from if_pos eC] at h9
  exact h9
set_option maxRecDepth 100000 in
theorem N_nextk (l : Launch) (g : gT) (hX : SL g x h σ kf) (num : Int) {k : Int} (hf : m_find σ num = k) (k0 : 0 ≤ k) (num_r : -2147483648 ≤ num ∧ num ≤ 2147483647) (n0 : 0 ≤ num) : CM l g yX4_next cX4_next 3 (some .int) { frames := 12, cells := 1, slots := 6, locals := 183 } [.ref x, .int (iI num)] h (fun v h1 => v = some (.int (iI (nxt σ (m_way σ k)))) ∧ SL g x h1 (σ) kf) noX := by
  obtain ⟨h0, hX0, rfl, hd⟩ := hX
  obtain ⟨hB, hI, hAP, hNO, hNI, hML⟩ := hX0.iv
  have hm := mb_nm hB
  have hn := mb_nr hB
  have eN : nx_at σ num = k := (if_neg (by omega)).trans hf
  have eb : nx_b σ num = m_way σ k := by unfold nx_b; rw [eN]; exact if_neg (by omega)
  have eC : nx_c σ num = 0 := if_neg (fun z => by have z2 := z.2; rw [eN] at z2; omega)
  have h9 := CM.ask (k := kf) hB (J_next l g hX0 num (by omega)) (fun E h1 hq => by obtain ⟨_, hq⟩ := hq; have e := hq.1; omega) hd
  rw [show nx_a σ num = nxt σ (m_way σ k) from by unfold nx_a; rw [if_pos eC, eb]; rfl] at h9
  exact h9
set_option maxRecDepth 100000 in
theorem N_powerOf (l : Launch) (g : gT) (hX : SL g x h σ kf) (r : Int) (f : Int) (r0 : 0 ≤ r ∧ r < σ 5 0) (f0 : 0 ≤ f ∧ f ≤ 1) : CM l g yX4_powerOf cX4_powerOf 6 (some .int) { frames := 12, cells := 2, slots := 12, locals := 182 } [.ref x, .int (iI r), .int (iI f)] h (fun v h1 => v = some (.int (iI (PW σ r f))) ∧ SL g x h1 (σ) kf) noX := by
  obtain ⟨h0, hX0, rfl, hd⟩ := hX
  obtain ⟨hB, hI, hAP, hNO, hNI, hML⟩ := hX0.iv
  have hm := mb_nm hB
  have hn := mb_nr hB
  have eC : rf_c σ r f = 0 := by unfold rf_c; rw [if_pos (show okR σ r = true from inn_iff.mpr ⟨r0.1, by omega⟩), if_pos (inn_iff.mpr f0)]
  have h9 := CM.ask (k := kf) hB (J_powerOf l g hX0 r f (by omega) (by omega)) (fun E h1 hq => by obtain ⟨_, hq⟩ := hq; rcases hq with ⟨e, _⟩ | ⟨e, _⟩ <;> omega) hd
  rw [show pO_a σ r f = PW σ r f from if_pos eC] at h9
  exact h9
set_option maxRecDepth 100000 in
theorem N_worstOf (l : Launch) (g : gT) (hX : SL g x h σ kf) (r : Int) (f : Int) (r0 : 0 ≤ r ∧ r < σ 5 0) (f0 : 0 ≤ f ∧ f ≤ 1) : CM l g yX4_worstOf cX4_worstOf 3 (some .int) { frames := 12, cells := 2, slots := 12, locals := 182 } [.ref x, .int (iI r), .int (iI f)] h (fun v h1 => v = some (.int (iI (m_worst σ r f))) ∧ SL g x h1 (σ) kf) noX := by
  obtain ⟨h0, hX0, rfl, hd⟩ := hX
  obtain ⟨hB, hI, hAP, hNO, hNI, hML⟩ := hX0.iv
  have hm := mb_nm hB
  have hn := mb_nr hB
  have eC : rf_c σ r f = 0 := by unfold rf_c; rw [if_pos (show okR σ r = true from inn_iff.mpr ⟨r0.1, by omega⟩), if_pos (inn_iff.mpr f0)]
  have h9 := CM.ask (k := kf) hB (J_worstOf l g hX0 r f (by omega) (by omega)) (fun E h1 hq => by obtain ⟨_, hq⟩ := hq; rcases hq with ⟨e, _⟩ | ⟨e, _⟩ <;> omega) hd
  rw [if_pos eC] at h9
  exact h9
set_option maxRecDepth 100000 in
theorem N_weightOf (l : Launch) (g : gT) (hX : SL g x h σ kf) (r : Int) (r0 : 0 ≤ r ∧ r < σ 5 0) : CM l g yX4_weightOf cX4_weightOf 2 (some .int) { frames := 11, cells := 1, slots := 6, locals := 161 } [.ref x, .int (iI r)] h (fun v h1 => v = some (.int (iI (m_weighs σ r))) ∧ SL g x h1 (σ) kf) noX := by
  obtain ⟨h0, hX0, rfl, hd⟩ := hX
  obtain ⟨hB, hI, hAP, hNO, hNI, hML⟩ := hX0.iv
  have hm := mb_nm hB
  have hn := mb_nr hB
  have eC : c01 (okR σ r) = 0 := c01_t (inn_iff.mpr ⟨r0.1, by omega⟩)
  have h9 := CM.ask (k := kf) hB (J_weightOf l g hX0 r (by omega)) (fun E h1 hq => by obtain ⟨_, hq⟩ := hq; have e := hq.1; omega) hd
  rw [if_pos eC] at h9
  exact h9
set_option maxRecDepth 100000 in
theorem N_gap (l : Launch) (g : gT) (hX : SL g x h σ kf) (r : Int) (r0 : 0 ≤ r ∧ r < σ 5 0) : CM l g yX4_gap cX4_gap 2 (some .int) { frames := 11, cells := 1, slots := 6, locals := 161 } [.ref x, .int (iI r)] h (fun v h1 => v = some (.int (iI ((m_gap σ r (σ 2 r)).1))) ∧ SL g x h1 (σ) kf) noX := by
  obtain ⟨h0, hX0, rfl, hd⟩ := hX
  obtain ⟨hB, hI, hAP, hNO, hNI, hML⟩ := hX0.iv
  have hm := mb_nm hB
  have hn := mb_nr hB
  have eC : c01 (okR σ r) = 0 := c01_t (inn_iff.mpr ⟨r0.1, by omega⟩)
  have h9 := CM.ask (k := kf) hB (J_gap l g hX0 r (by omega)) (fun E h1 hq => by obtain ⟨_, hq⟩ := hq; have e := hq.1; omega) hd
  rw [if_pos eC] at h9
  exact h9
set_option maxRecDepth 100000 in
theorem N_heatOf (l : Launch) (g : gT) (hX : SL g x h σ kf) (row : Int) (w0 : 0 ≤ row ∧ row ≤ 3) : CM l g yX4_heatOf cX4_heatOf 5 (some .int) { frames := 11, cells := 1, slots := 6, locals := 162 } [.ref x, .int (iI row)] h (fun v h1 => v = some (.int (iI (HO σ row))) ∧ SL g x h1 (σ) kf) noX := by
  obtain ⟨h0, hX0, rfl, hd⟩ := hX
  obtain ⟨hB, hI, hAP, hNO, hNI, hML⟩ := hX0.iv
  have hm := mb_nm hB
  have hn := mb_nr hB
  have eC : c01 (inn row 0 3) = 0 := c01_t (inn_iff.mpr w0)
  have h9 := CM.ask (k := kf) hB (J_heatOf l g hX0 row (by omega)) (fun E h1 hq => by obtain ⟨_, hq⟩ := hq; have e := hq.1; omega) hd
  rw [show hO_a σ row = HO σ row from if_pos eC] at h9
  exact h9
set_option maxRecDepth 100000 in
theorem N_racksFor (l : Launch) (g : gT) (hX : SL g x h σ kf) (n : Int) (p : Int) (w : Int) (c : Int) (hkd : cKD n p w c) : CM l g yX4_racksFor cX4_racksFor 8 (some .int) { frames := 12, cells := 5, slots := 31, locals := 186 } [.ref x, .int (iI n), .int (iI p), .int (iI w), .int (iI c)] h (fun v h1 => v = some (.int (iI (RF σ n p w c))) ∧ SL g x h1 (σ) kf) noX := by
  obtain ⟨h0, hX0, rfl, hd⟩ := hX
  obtain ⟨hB, hI, hAP, hNO, hNI, hML⟩ := hX0.iv
  have hm := mb_nm hB
  have hn := mb_nr hB
  have eC : c01 (m_kind n p w c) = 0 := c01_t (kd_kind.mp hkd)
  have h9 := CM.ask (k := kf) hB (J_racksFor l g hX0 n p w c (by omega) (by omega) (by omega) (by omega)) (fun E h1 hq => by obtain ⟨_, hq⟩ := hq; have e := hq.1; omega) hd
  rw [show rF_a σ n p w c = RF σ n p w c from if_pos eC] at h9
  exact h9
set_option maxRecDepth 100000 in
theorem N_roomFor (l : Launch) (g : gT) (hX : SL g x h σ kf) (n : Int) (p : Int) (w : Int) (c : Int) (hkd : cKD n p w c) : CM l g yX4_roomFor cX4_roomFor 8 (some .int) { frames := 12, cells := 5, slots := 31, locals := 199 } [.ref x, .int (iI n), .int (iI p), .int (iI w), .int (iI c)] h (fun v h1 => v = some (.int (iI (rc_all σ n p w c))) ∧ SL g x h1 (σ) kf) noX := by
  obtain ⟨h0, hX0, rfl, hd⟩ := hX
  obtain ⟨hB, hI, hAP, hNO, hNI, hML⟩ := hX0.iv
  have hm := mb_nm hB
  have hn := mb_nr hB
  have eC : c01 (m_kind n p w c) = 0 := c01_t (kd_kind.mp hkd)
  have h9 := CM.ask (k := kf) hB (J_roomFor l g hX0 n p w c (by omega) (by omega) (by omega) (by omega)) (fun E h1 hq => by obtain ⟨_, hq⟩ := hq; have e := hq.1; omega) hd
  rw [show rc_a σ n p w c = rc_all σ n p w c from if_pos eC] at h9
  exact h9
set_option maxRecDepth 100000 in
theorem N_roomByCounting (l : Launch) (g : gT) (hX : SL g x h σ kf) (n : Int) (p : Int) (w : Int) (c : Int) (hkd : cKD n p w c) : CM l g yX4_roomByCounting cX4_roomByCounting 9 (some .int) { frames := 12, cells := 5, slots := 31, locals := 186 } [.ref x, .int (iI n), .int (iI p), .int (iI w), .int (iI c)] h (fun v h1 => v = some (.int (iI (rc_all σ n p w c))) ∧ SL g x h1 (σ) kf) noX := by
  obtain ⟨h0, hX0, rfl, hd⟩ := hX
  obtain ⟨hB, hI, hAP, hNO, hNI, hML⟩ := hX0.iv
  have hm := mb_nm hB
  have hn := mb_nr hB
  have eC : c01 (m_kind n p w c) = 0 := c01_t (kd_kind.mp hkd)
  have h9 := CM.ask (k := kf) hB (J_roomByCounting l g hX0 n p w c (by omega) (by omega) (by omega) (by omega)) (fun E h1 hq => by obtain ⟨_, hq⟩ := hq; have e := hq.1; omega) hd
  rw [show rc_a σ n p w c = rc_all σ n p w c from if_pos eC] at h9
  exact h9
set_option maxRecDepth 100000 in
theorem N_addRack (l : Launch) (g : gT) (hX : SL g x h σ kf) (row : Int) (s : Int) (w : Int) (p : Int) (hk4 : (0 ≤ row ∧ row ≤ 3) ∧ (1 ≤ s ∧ s ≤ 20) ∧ (0 ≤ w ∧ w ≤ 10000) ∧ (0 ≤ p ∧ p ≤ 10000)) (h8 : σ 5 0 < 8) : CM l g yX4_addRack cX4_addRack 6 (some .int) { frames := 11, cells := 6, slots := 178, locals := 191 } [.ref x, .int (iI row), .int (iI s), .int (iI w), .int (iI p)] h (fun v h1 => v = some (.int (iI (σ 5 0))) ∧ SL g x h1 (aR_s σ row s w p) kf) noX := by
  obtain ⟨h0, hX0, rfl, hd⟩ := hX
  obtain ⟨hB, hI, hAP, hNO, hNI, hML⟩ := hX0.iv
  have hm := mb_nm hB
  have hn := mb_nr hB
  have eC : aR_c σ row s w p = 0 := by unfold aR_c; rw [if_pos (show aR_ok row s w p = true from by unfold aR_ok; rw [inn_iff.mpr hk4.1, inn_iff.mpr hk4.2.1, inn_iff.mpr hk4.2.2.1, inn_iff.mpr hk4.2.2.2]; rfl), if_neg (by omega)]
  have h9 := CM.chg (k := kf) (J_addRack l g hX0 row s w p (by omega) (by omega) (by omega) (by omega)) (fun E h1 hq => by obtain ⟨_, hq⟩ := hq; rcases hq with ⟨e, _⟩ | ⟨e, _⟩ <;> omega) hd
  rw [show aR_a σ row s w p = σ 5 0 from if_pos eC] at h9
  exact h9
set_option maxRecDepth 100000 in
theorem N_takeOut (l : Launch) (g : gT) (hX : SL g x h σ kf) (num : Int) {k : Int} (hf : m_find σ num = k) (k0 : 0 ≤ k) (num_r : -2147483648 ≤ num ∧ num ≤ 2147483647) : CM l g yX4_takeOut cX4_takeOut 4 (some .int) { frames := 11, cells := 1, slots := 6, locals := 162 } [.ref x, .int (iI num)] h (fun v h1 => v = some (.int (iI (σ 15 k))) ∧ SL g x h1 (tO_s σ num) kf) noX := by
  obtain ⟨h0, hX0, rfl, hd⟩ := hX
  obtain ⟨hB, hI, hAP, hNO, hNI, hML⟩ := hX0.iv
  have hm := mb_nm hB
  have hn := mb_nr hB
  have eC : fnd_c σ num = 0 := if_neg (by omega)
  have h9 := CM.chg (k := kf) (J_takeOut l g hX0 num (by omega)) (fun E h1 hq => by obtain ⟨_, hq⟩ := hq; have e := hq.1; omega) hd
  rw [show tO_a σ num = σ 15 k from by unfold tO_a; rw [if_pos eC, hf]] at h9
  exact h9
set_option maxRecDepth 100000 in
theorem N_switchFeed (l : Launch) (g : gT) (hX : SL g x h σ kf) (f : Int) (f0 : 0 ≤ f ∧ f ≤ 1) : CM l g yX4_switchFeed cX4_switchFeed 4 (some .int) { frames := 12, cells := 1, slots := 6, locals := 182 } [.ref x, .int (iI f)] h (fun v h1 => v = some (.int (iI (sm (dk (su σ 9 f (1 - σ 9 f))) (σ 17 0)))) ∧ SL g x h1 (wF_s σ f) kf) noX := by
  obtain ⟨h0, hX0, rfl, hd⟩ := hX
  obtain ⟨hB, hI, hAP, hNO, hNI, hML⟩ := hX0.iv
  have hm := mb_nm hB
  have hn := mb_nr hB
  have eC : c01 (inn f 0 1) = 0 := c01_t (inn_iff.mpr f0)
  have h9 := CM.chg (k := kf) (J_switchFeed l g hX0 f (by omega)) (fun E h1 hq => by obtain ⟨_, hq⟩ := hq; have e := hq.1; omega) hd
  rw [show wF_a σ f = sm (dk (su σ 9 f (1 - σ 9 f))) (σ 17 0) from if_pos eC] at h9
  exact h9
set_option maxRecDepth 100000 in
theorem N_pack (l : Launch) (g : gT) (hX : SL g x h σ kf)  : CM l g yX4_pack cX4_pack 4 (some .int) { frames := 9, cells := 60, slots := 9000, locals := 198 } [.ref x] h (fun v h1 => v = some (.int (iI (pk_a σ))) ∧ SL g x h1 (pk_s σ) kf) noX := by
  obtain ⟨h0, hX0, rfl, hd⟩ := hX
  obtain ⟨hB, hI, hAP, hNO, hNI, hML⟩ := hX0.iv
  have hm := mb_nm hB
  have hn := mb_nr hB
  have eC : (0 : Int) = 0 := rfl
  have h9 := CM.chg (k := kf) (J_pack l g hX0) (fun _ _ z => z) hd
  exact h9
end NQ
