/-! ===== class and reference together: the state, the queries ===== -/
def IV (σ : sT) : Prop := MB σ ∧ IW σ ∧ AP σ ∧ NO σ ∧ NI σ ∧ ML σ
def RX (K : Nat → Nat) (r : Nat → Int → Option Nat) (cp : Nat → Nat) (b b' : Nat) (τ σ : sT) : Prop := (b = 5 ∧ b' = 12 ∨ b = 12 ∧ b' = 5) ∧ CV K r cp τ ∧ IV σ ∧ SRel r τ σ ∧ PRel r τ σ ∧ PCel r τ σ ∧ LR τ b σ
def SX (g : gT) (x : Nat) (h : fH) (σ : sT) : Prop := ∃ (P K : Nat → Nat) (r : Nat → Int → Option Nat) (cp : Nat → Nat) (b b' : Nat) (τ : sT), P 0 = x ∧ h = cheap g P K r cp b b' τ ∧ cok P K cp ∧ RX K r cp b b' τ σ
theorem m_hts_rng {σ : sT} (hB : MB σ) (r : Int) : 0 ≤ m_hts σ r ∧ m_hts σ r ≤ 120000 := by
  have hm := mb_nm hB
  have := sm_le (f := m_hh σ r) (a := 0) (b := 2000) hm.1 (fun k p q => by
    have h12 : (0 : Int) ≤ σ 12 k ∧ σ 12 k ≤ 2000 := hB 12 k p (show k < (60 : Int) by omega)
    unfold m_hh; split <;> omega)
  unfold m_hts
  omega
theorem lr_wn {τ σ : sT} {w : Nat} (hB : MB σ) (hL : LR τ w σ) : Wn τ w 200000 := by
  refine ⟨fun z a b => ?_, fun z a b => ?_, fun z a b => ?_, fun z a b => ?_, fun z a b => ?_⟩
  · have h := hL.2 (z / 20) (z % 20) (by omega) (by omega) (by omega) (by omega)
    rw [show z / 20 * 20 + z % 20 = z by omega] at h
    rw [h]
    have hi := m_inSlot_rng hB (z / 20) (z % 20)
    by_cases c : m_inSlot σ (z / 20) (z % 20) = -1
    · rw [if_pos c]; omega
    · rw [if_neg c]
      have h2 : (0 : Int) ≤ σ 10 (m_inSlot σ (z / 20) (z % 20)) ∧ σ 10 (m_inSlot σ (z / 20) (z % 20)) ≤ 1000000 := hB 10 _ (by omega) (show m_inSlot σ (z / 20) (z % 20) < (60 : Int) by omega)
      omega
  · rw [(hL.1 z a b).1]; have := m_weighs_rng hB z; omega
  · rw [(hL.1 z a b).2.1]; have := m_hts_rng hB z; omega
  · rw [(hL.1 z a b).2.2.1]; have := m_worst_rng hB z 0; omega
  · rw [(hL.1 z a b).2.2.2]; have := m_worst_rng hB z 1; omega
theorem RX.facts {K : Nat → Nat} {r : Nat → Int → Option Nat} {cp : Nat → Nat} {b b' : Nat} {τ σ : sT} (h : RX K r cp b b' τ σ) : (b = 5 ∨ b = 12) ∧ (b' = 5 ∨ b' = 12) ∧ b' = 17 - b ∧ CV K r cp τ ∧ Wb τ b ∧ PC r τ ∧ Wn τ b 200000 ∧ MB σ ∧ IW σ ∧ AP σ ∧ NO σ ∧ NI σ ∧ ML σ ∧ SRel r τ σ ∧ PRel r τ σ ∧ PCel r τ σ ∧ LR τ b σ ∧ RV σ := by
  obtain ⟨hbb, hV, ⟨hB, hI, hA, hN, hNI, hML⟩, hS, hP, hC, hL⟩ := h
  have hw := lr_wn hB hL
  exact ⟨by omega, by omega, by omega, hV, hw.wb (by omega), lk_pc hB hI hA hS hP hC, hw, hB, hI, hA, hN, hNI, hML, hS, hP, hC, hL, hI.rv⟩
theorem RX.c0 {K : Nat → Nat} {r : Nat → Int → Option Nat} {cp : Nat → Nat} {b b' : Nat} {τ σ : sT} (h : RX K r cp b b' τ σ) {v : Int} (hv : 0 ≤ v ∧ v ≤ 3) : RX K r cp b b' τ (su σ 0 0 v) := by
  obtain ⟨hbb, hV, ⟨hB, hI, hA, hN, hNI, hML⟩, hS, hP, hC, hL⟩ := h
  exact ⟨hbb, hV, ⟨mb_su hB hv, hI, hA, hN, hNI, hML⟩, hS, hP, hC, hL⟩
theorem SX.c0 {g : gT} {x : Nat} {h : fH} {σ : sT} (hX : SX g x h σ) {v : Int} (hv : 0 ≤ v ∧ v ≤ 3) : SX g x h (su σ 0 0 v) := by
  obtain ⟨P, K, r, cp, b, b', τ, h1, h2, hk, hR⟩ := hX
  exact ⟨P, K, r, cp, b, b', τ, h1, h2, hk, hR.c0 hv⟩
theorem smoMb {K : Nat → Nat} {r : Nat → Int → Option Nat} {cp : Nat → Nat} {τ : sT} (hV : CV K r cp τ) {q : Nat} {n p w c : Int} (hkd : cKD n p w c) : Mb (smo τ q (τ 0 0) n p w c) q ∧ smo τ q (τ 0 0) n p w c 31 q = n ∧ smo τ q (τ 0 0) n p w c 32 q = p ∧ smo τ q (τ 0 0) n p w c 33 q = w ∧ smo τ q (τ 0 0) n p w c 34 q = c := by
  have h0 := hV.2.2.2.2.2.2.2.2.2
  have e30 : smo τ q (τ 0 0) n p w c 30 (q : Int) = τ 0 0 := iup_s _ _ _
  have e31 : smo τ q (τ 0 0) n p w c 31 (q : Int) = n := iup_s _ _ _
  have e32 : smo τ q (τ 0 0) n p w c 32 (q : Int) = p := iup_s _ _ _
  have e33 : smo τ q (τ 0 0) n p w c 33 (q : Int) = w := iup_s _ _ _
  have e34 : smo τ q (τ 0 0) n p w c 34 (q : Int) = c := iup_s _ _ _
  have e35 : smo τ q (τ 0 0) n p w c 35 (q : Int) = -1 := iup_s _ _ _
  have e36 : smo τ q (τ 0 0) n p w c 36 (q : Int) = -1 := iup_s _ _ _
  refine ⟨?_, e31, e32, e33, e34⟩
  unfold Mb
  rw [e30, e31, e32, e33, e34, e35, e36]
  omega
/-- a machine that is only asked for changes nothing of racks and layouts -/
theorem smo_S {r : Nat → Int → Option Nat} {τ σ : sT} {q : Nat} {n s p w c : Int} (h : SRel r τ σ) : SRel r (smo τ q n s p w c) σ := by
  unfold SRel
  rw [smo_lo (f := 55) (by omega), smo_lo (f := 40) (by omega), smo_lo (f := 41) (by omega), smo_lo (f := 42) (by omega), smo_lo (f := 43) (by omega), smo_lo (f := 20) (by omega), smo_lo (f := 21) (by omega), smo_lo (f := 22) (by omega)]
  exact h
theorem smo_L {τ σ : sT} {b q : Nat} {n s p w c : Int} (hb : b = 5 ∨ b = 12) (h : LR τ b σ) : LR (smo τ q n s p w c) b σ := by
  unfold LR
  rw [smo_lo (f := b + 1) (by omega), smo_lo (f := b + 2) (by omega), smo_lo (f := b + 3) (by omega), smo_lo (f := b + 5) (by omega), smo_lo (f := b + 6) (by omega)]
  exact h
theorem kd_kind {n p w c : Int} : cKD n p w c ↔ m_kind n p w c = true := kind_iff.symm
theorem c01_t {b : Bool} (h : b = true) : c01 b = 0 := by rw [h]; rfl
theorem c01_f {b : Bool} (h : b = false) : c01 b = 1 := by rw [h]; rfl
set_option maxRecDepth 100000 in
theorem J_racks (l : Launch) (g : gT) {x : Nat} {h : fH} {σ : sT} (hX : SX g x h σ) : CM l g yX4_racks cX4_racks 1 (some .int) { frames := 2, cells := 0, slots := 0, locals := 40 } [.ref x] h (fun v h1 => (0 : Int) = 0 ∧ v = some (.int (iI (σ 5 0))) ∧ SX g x h1 (su σ 0 0 0)) (noX) := by
  obtain ⟨P, K, r, cp, b, b', τ, rfl, rfl, hk, hR⟩ := hX
  obtain ⟨hb, hb2, hbb, hV, hW, hPC, hWn, hB, hI, hA, hN, hNI, hML, hS, hP, hC, hL, hRV⟩ := hR.facts
  have hm := mb_nm hB
  have hn := mb_nr hB
  have SXk : ∀ v : Int, 0 ≤ v ∧ v ≤ 3 → SX g (P 0) (cheap g P K r cp b b' τ) (su σ 0 0 v) := fun v hv => ⟨P, K, r, cp, b, b', τ, rfl, rfl, hk, hR.c0 hv⟩
  refine CM.mono (k_X4_racks l g hk hb hb2 hV hW hPC) ?_ ?_
  · rintro v h1 ⟨rfl, rfl⟩
    exact ⟨_, ⟨rfl, by rw [hS.1], SXk 0 (by decide)⟩, fun a e h9 => h9⟩
  · exact fun _ _ z => z.elim
set_option maxRecDepth 100000 in
theorem J_machines (l : Launch) (g : gT) {x : Nat} {h : fH} {σ : sT} (hX : SX g x h σ) : CM l g yX4_machines cX4_machines 1 (some .int) { frames := 2, cells := 0, slots := 0, locals := 40 } [.ref x] h (fun v h1 => (0 : Int) = 0 ∧ v = some (.int (iI (σ 17 0))) ∧ SX g x h1 (su σ 0 0 0)) (noX) := by
  obtain ⟨P, K, r, cp, b, b', τ, rfl, rfl, hk, hR⟩ := hX
  obtain ⟨hb, hb2, hbb, hV, hW, hPC, hWn, hB, hI, hA, hN, hNI, hML, hS, hP, hC, hL, hRV⟩ := hR.facts
  have hm := mb_nm hB
  have hn := mb_nr hB
  have SXk : ∀ v : Int, 0 ≤ v ∧ v ≤ 3 → SX g (P 0) (cheap g P K r cp b b' τ) (su σ 0 0 v) := fun v hv => ⟨P, K, r, cp, b, b', τ, rfl, rfl, hk, hR.c0 hv⟩
  refine CM.mono (k_X4_machines l g hk hb hb2 hV hW hPC) ?_ ?_
  · rintro v h1 ⟨rfl, rfl⟩
    exact ⟨_, ⟨rfl, by rw [hP.1], SXk 0 (by decide)⟩, fun a e h9 => h9⟩
  · exact fun _ _ z => z.elim
set_option maxRecDepth 100000 in
theorem J_hasFailed (l : Launch) (g : gT) {x : Nat} {h : fH} {σ : sT} (hX : SX g x h σ) (f : Int) (hf_ : -2147483648 ≤ f ∧ f ≤ 2147483647) : CM l g yX4_hasFailed cX4_hasFailed 2 (some .boolean) { frames := 12, cells := 1, slots := 6, locals := 182 } [.ref x, .int (iI f)] h (fun v h1 => c01 (inn f 0 1) = 0 ∧ v = some (.int (iI (bI (decide (c01 (inn f 0 1) = 0) && decide (σ 9 f = 1))))) ∧ SX g x h1 (su σ 0 0 (c01 (inn f 0 1)))) (fun E h1 => SX g x h1 (su σ 0 0 (c01 (inn f 0 1))) ∧ ((c01 (inn f 0 1) = 1 ∧ E = "java/lang/IllegalArgumentException"))) := by
  obtain ⟨P, K, r, cp, b, b', τ, rfl, rfl, hk, hR⟩ := hX
  obtain ⟨hb, hb2, hbb, hV, hW, hPC, hWn, hB, hI, hA, hN, hNI, hML, hS, hP, hC, hL, hRV⟩ := hR.facts
  have hm := mb_nm hB
  have hn := mb_nr hB
  have SXk : ∀ v : Int, 0 ≤ v ∧ v ≤ 3 → SX g (P 0) (cheap g P K r cp b b' τ) (su σ 0 0 v) := fun v hv => ⟨P, K, r, cp, b, b', τ, rfl, rfl, hk, hR.c0 hv⟩
  refine CM.mono (k_X4_hasFailed l g hk hb hb2 hV hW hPC (f := f) (hf := hf_)) ?_ ?_
  · rintro v h1 ⟨rfl, rfl, h0, h1⟩
    have e : c01 (inn f 0 1) = 0 := c01_t (inn_iff.mpr ⟨h0, h1⟩)
    have b9 : (0 : Int) ≤ σ 9 f ∧ σ 9 f ≤ 1 := hB 9 f h0 (show f < (2 : Int) by omega)
    refine ⟨_, ⟨e, ?_, SXk _ (c01_rng _)⟩, fun a e h9 => h9⟩
    rw [hP.2.2.2 f h0 (by omega), e]
    rcases (show σ 9 f = 0 ∨ σ 9 f = 1 by omega) with z | z <;> rw [z] <;> rfl
  · rintro E h1 ⟨rfl, rfl, h0⟩
    exact ⟨_, ⟨SXk _ (c01_rng _), ⟨c01_f (inn_f.mpr h0), rfl⟩⟩, fun a e h9 => h9⟩
set_option maxRecDepth 100000 in
theorem J_rackOf (l : Launch) (g : gT) {x : Nat} {h : fH} {σ : sT} (hX : SX g x h σ) (num : Int) (hnum_ : -2147483648 ≤ num ∧ num ≤ 2147483647) : CM l g yX4_rackOf cX4_rackOf 2 (some .int) { frames := 12, cells := 1, slots := 6, locals := 183 } [.ref x, .int (iI num)] h (fun v h1 => fnd_c σ num = 0 ∧ v = some (.int (iI (if fnd_c σ num = 0 then σ 15 (m_find σ num) else 0))) ∧ SX g x h1 (su σ 0 0 (fnd_c σ num))) (fun E h1 => SX g x h1 (su σ 0 0 (fnd_c σ num)) ∧ ((fnd_c σ num = 1 ∧ E = "java/lang/IndexOutOfBoundsException"))) := by
  obtain ⟨P, K, r, cp, b, b', τ, rfl, rfl, hk, hR⟩ := hX
  obtain ⟨hb, hb2, hbb, hV, hW, hPC, hWn, hB, hI, hA, hN, hNI, hML, hS, hP, hC, hL, hRV⟩ := hR.facts
  have hm := mb_nm hB
  have hn := mb_nr hB
  have SXk : ∀ v : Int, 0 ≤ v ∧ v ≤ 3 → SX g (P 0) (cheap g P K r cp b b' τ) (su σ 0 0 v) := fun v hv => ⟨P, K, r, cp, b, b', τ, rfl, rfl, hk, hR.c0 hv⟩
  refine CM.mono (k_X4_rackOf l g hk hb hb2 hV hW hPC (num := num) (hnum := hnum_)) ?_ ?_
  · rintro v h1 ⟨rfl, rfl, h0, h1⟩
    rw [lk_ix hB hP] at h0 h1 ⊢
    rw [hP.1] at h1
    have e : fnd_c σ num = 0 := if_neg (by omega)
    exact ⟨_, ⟨e, by rw [if_pos e]; rw [(lk_rack hB hI hA hC h0 h1).1], SXk _ (fnd_c_rng σ num)⟩, fun a e h9 => h9⟩
  · rintro E h1 ⟨rfl, rfl, h0⟩
    rw [lk_ix hB hP] at h0
    have e : fnd_c σ num = 1 := if_pos h0
    exact ⟨_, ⟨SXk _ (fnd_c_rng σ num), e, rfl⟩, fun a e h9 => h9⟩
set_option maxRecDepth 100000 in
theorem J_slotOf (l : Launch) (g : gT) {x : Nat} {h : fH} {σ : sT} (hX : SX g x h σ) (num : Int) (hnum_ : -2147483648 ≤ num ∧ num ≤ 2147483647) : CM l g yX4_slotOf cX4_slotOf 2 (some .int) { frames := 12, cells := 1, slots := 6, locals := 183 } [.ref x, .int (iI num)] h (fun v h1 => fnd_c σ num = 0 ∧ v = some (.int (iI (if fnd_c σ num = 0 then σ 16 (m_find σ num) else 0))) ∧ SX g x h1 (su σ 0 0 (fnd_c σ num))) (fun E h1 => SX g x h1 (su σ 0 0 (fnd_c σ num)) ∧ ((fnd_c σ num = 1 ∧ E = "java/lang/IndexOutOfBoundsException"))) := by
  obtain ⟨P, K, r, cp, b, b', τ, rfl, rfl, hk, hR⟩ := hX
  obtain ⟨hb, hb2, hbb, hV, hW, hPC, hWn, hB, hI, hA, hN, hNI, hML, hS, hP, hC, hL, hRV⟩ := hR.facts
  have hm := mb_nm hB
  have hn := mb_nr hB
  have SXk : ∀ v : Int, 0 ≤ v ∧ v ≤ 3 → SX g (P 0) (cheap g P K r cp b b' τ) (su σ 0 0 v) := fun v hv => ⟨P, K, r, cp, b, b', τ, rfl, rfl, hk, hR.c0 hv⟩
  refine CM.mono (k_X4_slotOf l g hk hb hb2 hV hW hPC (num := num) (hnum := hnum_)) ?_ ?_
  · rintro v h1 ⟨rfl, rfl, h0, h1⟩
    rw [lk_ix hB hP] at h0 h1 ⊢
    rw [hP.1] at h1
    have e : fnd_c σ num = 0 := if_neg (by omega)
    exact ⟨_, ⟨e, by rw [if_pos e]; rw [(lk_rack hB hI hA hC h0 h1).2], SXk _ (fnd_c_rng σ num)⟩, fun a e h9 => h9⟩
  · rintro E h1 ⟨rfl, rfl, h0⟩
    rw [lk_ix hB hP] at h0
    have e : fnd_c σ num = 1 := if_pos h0
    exact ⟨_, ⟨SXk _ (fnd_c_rng σ num), e, rfl⟩, fun a e h9 => h9⟩
set_option maxRecDepth 100000 in
theorem J_isDark (l : Launch) (g : gT) {x : Nat} {h : fH} {σ : sT} (hX : SX g x h σ) (num : Int) (hnum_ : -2147483648 ≤ num ∧ num ≤ 2147483647) : CM l g yX4_isDark cX4_isDark 2 (some .boolean) { frames := 12, cells := 1, slots := 6, locals := 183 } [.ref x, .int (iI num)] h (fun v h1 => fnd_c σ num = 0 ∧ v = some (.int (iI (bI (decide (fnd_c σ num = 0) && m_dark σ (m_find σ num))))) ∧ SX g x h1 (su σ 0 0 (fnd_c σ num))) (fun E h1 => SX g x h1 (su σ 0 0 (fnd_c σ num)) ∧ ((fnd_c σ num = 1 ∧ E = "java/lang/IndexOutOfBoundsException"))) := by
  obtain ⟨P, K, r, cp, b, b', τ, rfl, rfl, hk, hR⟩ := hX
  obtain ⟨hb, hb2, hbb, hV, hW, hPC, hWn, hB, hI, hA, hN, hNI, hML, hS, hP, hC, hL, hRV⟩ := hR.facts
  have hm := mb_nm hB
  have hn := mb_nr hB
  have SXk : ∀ v : Int, 0 ≤ v ∧ v ≤ 3 → SX g (P 0) (cheap g P K r cp b b' τ) (su σ 0 0 v) := fun v hv => ⟨P, K, r, cp, b, b', τ, rfl, rfl, hk, hR.c0 hv⟩
  refine CM.mono (k_X4_isDark l g hk hb hb2 hV hW hPC (num := num) (hnum := hnum_)) ?_ ?_
  · rintro v h1 ⟨rfl, rfl, h0, h1⟩
    rw [lk_ix hB hP] at h0 h1 ⊢
    rw [hP.1] at h1
    have e : fnd_c σ num = 0 := if_neg (by omega)
    exact ⟨_, ⟨e, by rw [lk_dk hB hP h0 h1, decide_eq_true e]; rfl, SXk _ (fnd_c_rng σ num)⟩, fun a e h9 => h9⟩
  · rintro E h1 ⟨rfl, rfl, h0⟩
    rw [lk_ix hB hP] at h0
    have e : fnd_c σ num = 1 := if_pos h0
    exact ⟨_, ⟨SXk _ (fnd_c_rng σ num), e, rfl⟩, fun a e h9 => h9⟩
set_option maxRecDepth 100000 in
theorem J_machineAt (l : Launch) (g : gT) {x : Nat} {h : fH} {σ : sT} (hX : SX g x h σ) (k s : Int) (hk_ : -2147483648 ≤ k ∧ k ≤ 2147483647) (hs_ : -2147483648 ≤ s ∧ s ≤ 2147483647) : CM l g yX4_machineAt cX4_machineAt 4 (some .int) { frames := 11, cells := 2, slots := 12, locals := 161 } [.ref x, .int (iI k), .int (iI s)] h (fun v h1 => c01 (mA_ok σ k s) = 0 ∧ v = some (.int (iI (mA_a σ k s))) ∧ SX g x h1 (su σ 0 0 (c01 (mA_ok σ k s)))) (fun E h1 => SX g x h1 (su σ 0 0 (c01 (mA_ok σ k s))) ∧ ((c01 (mA_ok σ k s) = 1 ∧ E = "java/lang/IndexOutOfBoundsException"))) := by
  obtain ⟨P, K, r, cp, b, b', τ, rfl, rfl, hk, hR⟩ := hX
  obtain ⟨hb, hb2, hbb, hV, hW, hPC, hWn, hB, hI, hA, hN, hNI, hML, hS, hP, hC, hL, hRV⟩ := hR.facts
  have hm := mb_nm hB
  have hn := mb_nr hB
  have SXk : ∀ v : Int, 0 ≤ v ∧ v ≤ 3 → SX g (P 0) (cheap g P K r cp b b' τ) (su σ 0 0 v) := fun v hv => ⟨P, K, r, cp, b, b', τ, rfl, rfl, hk, hR.c0 hv⟩
  refine CM.mono (k_X4_machineAt l g hk hb hb2 hV hW hPC (k := k) (hkr := hk_) (s := s) (hs := hs_)) ?_ ?_
  · rintro v h1 ⟨rfl, rfl, h0, h1⟩
    rw [hS.1] at h0
    rw [(hS.2.1 k h0.1 h0.2).2.1] at h1
    have hs := lk_slots hB h0.1 (by omega)
    have e : c01 (mA_ok σ k s) = 0 := c01_t (by unfold mA_ok; rw [okR_iff.mpr ⟨h0.1, by omega⟩, inn_iff.mpr ⟨h1.1, by omega⟩]; rfl)
    refine ⟨_, ⟨e, ?_, SXk _ (c01_rng _)⟩, fun a e h9 => h9⟩
    rw [hL.2 k s h0.1 (by omega) h1.1 (by omega), show mA_a σ k s = (if m_inSlot σ k s = -1 then -1 else σ 10 (m_inSlot σ k s)) from if_pos e]
  · rintro E h1 ⟨rfl, rfl, h0⟩
    refine ⟨_, ⟨SXk _ (c01_rng _), c01_f ?_, rfl⟩, fun a e h9 => h9⟩
    cases hq : mA_ok σ k s with
    | false => rfl
    | true =>
      exfalso
      unfold mA_ok at hq
      rw [Bool.and_eq_true] at hq
      have q1 := okR_iff.mp hq.1
      have q2 := inn_iff.mp hq.2
      refine h0 ⟨⟨q1.1, by rw [hS.1]; omega⟩, q2.1, ?_⟩
      rw [(hS.2.1 k q1.1 (by omega)).2.1]; omega
set_option maxRecDepth 100000 in
theorem J_next (l : Launch) (g : gT) {x : Nat} {h : fH} {σ : sT} (hX : SX g x h σ) (num : Int) (hnum_ : -2147483648 ≤ num ∧ num ≤ 2147483647) : CM l g yX4_next cX4_next 3 (some .int) { frames := 12, cells := 1, slots := 6, locals := 183 } [.ref x, .int (iI num)] h (fun v h1 => nx_c σ num = 0 ∧ v = some (.int (iI (nx_a σ num))) ∧ SX g x h1 (su σ 0 0 (nx_c σ num))) (fun E h1 => SX g x h1 (su σ 0 0 (nx_c σ num)) ∧ ((nx_c σ num = 1 ∧ E = "java/lang/IndexOutOfBoundsException"))) := by
  obtain ⟨P, K, r, cp, b, b', τ, rfl, rfl, hk, hR⟩ := hX
  obtain ⟨hb, hb2, hbb, hV, hW, hPC, hWn, hB, hI, hA, hN, hNI, hML, hS, hP, hC, hL, hRV⟩ := hR.facts
  have hm := mb_nm hB
  have hn := mb_nr hB
  have SXk : ∀ v : Int, 0 ≤ v ∧ v ≤ 3 → SX g (P 0) (cheap g P K r cp b b' τ) (su σ 0 0 v) := fun v hv => ⟨P, K, r, cp, b, b', τ, rfl, rfl, hk, hR.c0 hv⟩
  refine CM.mono (k_X4_next l g hk hb hb2 hV hW hPC (num := num) (hnum := hnum_)) ?_ ?_
  · rintro v h1 ⟨rfl, hv⟩
    rcases hv with ⟨e1, rfl⟩ | ⟨e1, h0, h1, rfl⟩
    · have e : nx_c σ num = 0 := if_neg (fun z => z.1 e1)
      have eb : nx_b σ num = -1 := by unfold nx_b; rw [show nx_at σ num = -1 from if_pos e1, if_pos rfl]
      refine ⟨_, ⟨e, ?_, SXk _ (nx_c_rng σ num)⟩, fun a e h9 => h9⟩
      rw [lk_next hB hI hA hN hL (bh := -1) (by omega) (next_0 hB hI hA), show nx_a σ num = _ from if_pos e, eb]
    · rw [lk_ix hB hP] at h0 h1 ⊢
      rw [hP.1] at h1
      have ea : nx_at σ num = m_find σ num := if_neg e1
      have e : nx_c σ num = 0 := if_neg (fun z => by have z2 := z.2; rw [ea] at z2; omega)
      have eb : nx_b σ num = m_way σ (m_find σ num) := by unfold nx_b; rw [ea, if_neg (by omega)]
      have hcl := lk_cell hB hI hA h0 h1
      have ew : τ 35 (ad r 0 (m_find σ num)) + τ 31 (ad r 0 (m_find σ num)) = m_way σ (m_find σ num) + σ 11 (m_find σ num) := by rw [hC _ h0 h1, (hP.2.1 _ h0 h1).2.1]; unfold m_way; omega
      refine ⟨_, ⟨e, ?_, SXk _ (nx_c_rng σ num)⟩, fun a e h9 => h9⟩
      rw [ew, lk_next hB hI hA hN hL (bh := m_way σ (m_find σ num)) (by unfold m_way; omega) (next_at hB hI hA hN h0 h1), show nx_a σ num = _ from if_pos e, eb]
  · rintro E h1 ⟨rfl, rfl, h0, h1⟩
    rw [lk_ix hB hP] at h1
    exact ⟨_, ⟨SXk _ (nx_c_rng σ num), if_pos ⟨h0, (if_neg h0).trans h1⟩, rfl⟩, fun a e h9 => h9⟩
set_option maxRecDepth 100000 in
theorem J_powerOf (l : Launch) (g : gT) {x : Nat} {h : fH} {σ : sT} (hX : SX g x h σ) (k f : Int) (hk_ : -2147483648 ≤ k ∧ k ≤ 2147483647) (hf_ : -2147483648 ≤ f ∧ f ≤ 2147483647) : CM l g yX4_powerOf cX4_powerOf 6 (some .int) { frames := 12, cells := 2, slots := 12, locals := 182 } [.ref x, .int (iI k), .int (iI f)] h (fun v h1 => rf_c σ k f = 0 ∧ v = some (.int (iI (pO_a σ k f))) ∧ SX g x h1 (su σ 0 0 (rf_c σ k f))) (fun E h1 => SX g x h1 (su σ 0 0 (rf_c σ k f)) ∧ ((rf_c σ k f = 1 ∧ E = "java/lang/IndexOutOfBoundsException") ∨ (rf_c σ k f = 2 ∧ E = "java/lang/IllegalArgumentException"))) := by
  obtain ⟨P, K, r, cp, b, b', τ, rfl, rfl, hk, hR⟩ := hX
  obtain ⟨hb, hb2, hbb, hV, hW, hPC, hWn, hB, hI, hA, hN, hNI, hML, hS, hP, hC, hL, hRV⟩ := hR.facts
  have hm := mb_nm hB
  have hn := mb_nr hB
  have SXk : ∀ v : Int, 0 ≤ v ∧ v ≤ 3 → SX g (P 0) (cheap g P K r cp b b' τ) (su σ 0 0 v) := fun v hv => ⟨P, K, r, cp, b, b', τ, rfl, rfl, hk, hR.c0 hv⟩
  refine CM.mono (k_X4_powerOf l g hk hb hb2 hV hW hPC (k := k) (hkr := hk_) (f := f) (hf := hf_)) ?_ ?_
  · rintro v h1 ⟨rfl, rfl, h0, h1⟩
    rw [hS.1] at h0
    have e : rf_c σ k f = 0 := by unfold rf_c; rw [if_pos (okR_iff.mpr ⟨h0.1, by omega⟩), if_pos (inn_iff.mpr h1)]
    refine ⟨_, ⟨e, ?_, SXk _ (rf_c_rng σ k f)⟩, fun a e h9 => h9⟩
    rw [show pO_a σ k f = sm (pwt σ k f) (σ 17 0) from if_pos e, lk_pt hB hI hA hP hC h1]
  · rintro E h1 ⟨rfl, hv⟩
    rw [hS.1] at hv
    rcases hv with ⟨rfl, h0⟩ | ⟨rfl, h0, h1⟩
    · exact ⟨_, ⟨SXk _ (rf_c_rng σ k f), Or.inl ⟨if_neg (fun z => h0 (by have := okR_iff.mp z; omega)), rfl⟩⟩, fun a e h9 => h9⟩
    · exact ⟨_, ⟨SXk _ (rf_c_rng σ k f), Or.inr ⟨(if_pos (okR_iff.mpr ⟨h0.1, by omega⟩)).trans (if_neg (fun z => h1 (inn_iff.mp z))), rfl⟩⟩, fun a e h9 => h9⟩
set_option maxRecDepth 100000 in
theorem J_worstOf (l : Launch) (g : gT) {x : Nat} {h : fH} {σ : sT} (hX : SX g x h σ) (k f : Int) (hk_ : -2147483648 ≤ k ∧ k ≤ 2147483647) (hf_ : -2147483648 ≤ f ∧ f ≤ 2147483647) : CM l g yX4_worstOf cX4_worstOf 3 (some .int) { frames := 12, cells := 2, slots := 12, locals := 182 } [.ref x, .int (iI k), .int (iI f)] h (fun v h1 => rf_c σ k f = 0 ∧ v = some (.int (iI (if rf_c σ k f = 0 then m_worst σ k f else 0))) ∧ SX g x h1 (su σ 0 0 (rf_c σ k f))) (fun E h1 => SX g x h1 (su σ 0 0 (rf_c σ k f)) ∧ ((rf_c σ k f = 1 ∧ E = "java/lang/IndexOutOfBoundsException") ∨ (rf_c σ k f = 2 ∧ E = "java/lang/IllegalArgumentException"))) := by
  obtain ⟨P, K, r, cp, b, b', τ, rfl, rfl, hk, hR⟩ := hX
  obtain ⟨hb, hb2, hbb, hV, hW, hPC, hWn, hB, hI, hA, hN, hNI, hML, hS, hP, hC, hL, hRV⟩ := hR.facts
  have hm := mb_nm hB
  have hn := mb_nr hB
  have SXk : ∀ v : Int, 0 ≤ v ∧ v ≤ 3 → SX g (P 0) (cheap g P K r cp b b' τ) (su σ 0 0 v) := fun v hv => ⟨P, K, r, cp, b, b', τ, rfl, rfl, hk, hR.c0 hv⟩
  refine CM.mono (k_X4_worstOf l g hk hb hb2 hV hW hPC (k := k) (hkr := hk_) (f := f) (hf := hf_)) ?_ ?_
  · rintro v h1 ⟨rfl, rfl, h0, h1⟩
    rw [hS.1] at h0
    have e : rf_c σ k f = 0 := by unfold rf_c; rw [if_pos (okR_iff.mpr ⟨h0.1, by omega⟩), if_pos (inn_iff.mpr h1)]
    refine ⟨_, ⟨e, ?_, SXk _ (rf_c_rng σ k f)⟩, fun a e h9 => h9⟩
    rw [if_pos e]
    rcases (show f = 0 ∨ f = 1 by omega) with rfl | rfl
    · exact congrArg (fun z => some (Value.int (iI z))) (hL.1 k h0.1 (by omega)).2.2.1
    · exact congrArg (fun z => some (Value.int (iI z))) (hL.1 k h0.1 (by omega)).2.2.2
  · rintro E h1 ⟨rfl, hv⟩
    rw [hS.1] at hv
    rcases hv with ⟨rfl, h0⟩ | ⟨rfl, h0, h1⟩
    · exact ⟨_, ⟨SXk _ (rf_c_rng σ k f), Or.inl ⟨if_neg (fun z => h0 (by have := okR_iff.mp z; omega)), rfl⟩⟩, fun a e h9 => h9⟩
    · exact ⟨_, ⟨SXk _ (rf_c_rng σ k f), Or.inr ⟨(if_pos (okR_iff.mpr ⟨h0.1, by omega⟩)).trans (if_neg (fun z => h1 (inn_iff.mp z))), rfl⟩⟩, fun a e h9 => h9⟩
set_option maxRecDepth 100000 in
theorem J_weightOf (l : Launch) (g : gT) {x : Nat} {h : fH} {σ : sT} (hX : SX g x h σ) (k : Int) (hk_ : -2147483648 ≤ k ∧ k ≤ 2147483647) : CM l g yX4_weightOf cX4_weightOf 2 (some .int) { frames := 11, cells := 1, slots := 6, locals := 161 } [.ref x, .int (iI k)] h (fun v h1 => c01 (okR σ k) = 0 ∧ v = some (.int (iI (if c01 (okR σ k) = 0 then m_weighs σ k else 0))) ∧ SX g x h1 (su σ 0 0 (c01 (okR σ k)))) (fun E h1 => SX g x h1 (su σ 0 0 (c01 (okR σ k))) ∧ ((c01 (okR σ k) = 1 ∧ E = "java/lang/IndexOutOfBoundsException"))) := by
  obtain ⟨P, K, r, cp, b, b', τ, rfl, rfl, hk, hR⟩ := hX
  obtain ⟨hb, hb2, hbb, hV, hW, hPC, hWn, hB, hI, hA, hN, hNI, hML, hS, hP, hC, hL, hRV⟩ := hR.facts
  have hm := mb_nm hB
  have hn := mb_nr hB
  have SXk : ∀ v : Int, 0 ≤ v ∧ v ≤ 3 → SX g (P 0) (cheap g P K r cp b b' τ) (su σ 0 0 v) := fun v hv => ⟨P, K, r, cp, b, b', τ, rfl, rfl, hk, hR.c0 hv⟩
  refine CM.mono (k_X4_weightOf l g hk hb hb2 hV hW hPC (k := k) (hkr := hk_)) ?_ ?_
  · rintro v h1 ⟨rfl, rfl, h0, h1⟩
    rw [hS.1] at h1
    have e : c01 (okR σ k) = 0 := c01_t (okR_iff.mpr ⟨h0, by omega⟩)
    refine ⟨_, ⟨e, ?_, SXk _ (c01_rng _)⟩, fun a e h9 => h9⟩
    rw [if_pos e, (hL.1 k h0 (by omega)).1]
  · rintro E h1 ⟨rfl, rfl, h0⟩
    rw [hS.1] at h0
    refine ⟨_, ⟨SXk _ (c01_rng _), c01_f ?_, rfl⟩, fun a e h9 => h9⟩
    cases hq : okR σ k with
    | false => rfl
    | true => exact absurd (by have := okR_iff.mp hq; omega) h0
set_option maxRecDepth 100000 in
theorem J_gap (l : Launch) (g : gT) {x : Nat} {h : fH} {σ : sT} (hX : SX g x h σ) (k : Int) (hk_ : -2147483648 ≤ k ∧ k ≤ 2147483647) : CM l g yX4_gap cX4_gap 2 (some .int) { frames := 11, cells := 1, slots := 6, locals := 161 } [.ref x, .int (iI k)] h (fun v h1 => c01 (okR σ k) = 0 ∧ v = some (.int (iI (if c01 (okR σ k) = 0 then (m_gap σ k (σ 2 k)).1 else 0))) ∧ SX g x h1 (su σ 0 0 (c01 (okR σ k)))) (fun E h1 => SX g x h1 (su σ 0 0 (c01 (okR σ k))) ∧ ((c01 (okR σ k) = 1 ∧ E = "java/lang/IndexOutOfBoundsException"))) := by
  obtain ⟨P, K, r, cp, b, b', τ, rfl, rfl, hk, hR⟩ := hX
  obtain ⟨hb, hb2, hbb, hV, hW, hPC, hWn, hB, hI, hA, hN, hNI, hML, hS, hP, hC, hL, hRV⟩ := hR.facts
  have hm := mb_nm hB
  have hn := mb_nr hB
  have SXk : ∀ v : Int, 0 ≤ v ∧ v ≤ 3 → SX g (P 0) (cheap g P K r cp b b' τ) (su σ 0 0 v) := fun v hv => ⟨P, K, r, cp, b, b', τ, rfl, rfl, hk, hR.c0 hv⟩
  refine CM.mono (k_X4_gap l g hk hb hb2 hV hW hPC (k := k) (hkr := hk_)) ?_ ?_
  · rintro v h1 ⟨rfl, rfl, h0, h1⟩
    rw [hS.1] at h1
    have e : c01 (okR σ k) = 0 := c01_t (okR_iff.mpr ⟨h0, by omega⟩)
    refine ⟨_, ⟨e, ?_, SXk _ (c01_rng _)⟩, fun a e h9 => h9⟩
    rw [if_pos e, lk_gap hB hS hL h0 h1]
  · rintro E h1 ⟨rfl, rfl, h0⟩
    rw [hS.1] at h0
    refine ⟨_, ⟨SXk _ (c01_rng _), c01_f ?_, rfl⟩, fun a e h9 => h9⟩
    cases hq : okR σ k with
    | false => rfl
    | true => exact absurd (by have := okR_iff.mp hq; omega) h0
set_option maxRecDepth 100000 in
theorem J_heatOf (l : Launch) (g : gT) {x : Nat} {h : fH} {σ : sT} (hX : SX g x h σ) (row : Int) (hrow_ : -2147483648 ≤ row ∧ row ≤ 2147483647) : CM l g yX4_heatOf cX4_heatOf 5 (some .int) { frames := 11, cells := 1, slots := 6, locals := 162 } [.ref x, .int (iI row)] h (fun v h1 => c01 (inn row 0 3) = 0 ∧ v = some (.int (iI (hO_a σ row))) ∧ SX g x h1 (su σ 0 0 (c01 (inn row 0 3)))) (fun E h1 => SX g x h1 (su σ 0 0 (c01 (inn row 0 3))) ∧ ((c01 (inn row 0 3) = 1 ∧ E = "java/lang/IllegalArgumentException"))) := by
  obtain ⟨P, K, r, cp, b, b', τ, rfl, rfl, hk, hR⟩ := hX
  obtain ⟨hb, hb2, hbb, hV, hW, hPC, hWn, hB, hI, hA, hN, hNI, hML, hS, hP, hC, hL, hRV⟩ := hR.facts
  have hm := mb_nm hB
  have hn := mb_nr hB
  have SXk : ∀ v : Int, 0 ≤ v ∧ v ≤ 3 → SX g (P 0) (cheap g P K r cp b b' τ) (su σ 0 0 v) := fun v hv => ⟨P, K, r, cp, b, b', τ, rfl, rfl, hk, hR.c0 hv⟩
  refine CM.mono (k_X4_heatOf l g hk hb hb2 hV hW hPC (row := row) (hrow := hrow_)) ?_ ?_
  · rintro v h1 ⟨rfl, rfl, h0, h1⟩
    have e : c01 (inn row 0 3) = 0 := c01_t (inn_iff.mpr ⟨h0, h1⟩)
    exact ⟨_, ⟨e, by rw [show hO_a σ row = sm (hO_t σ row) (σ 17 0) from if_pos e, lk_ht hB hI hA hS hP hC], SXk _ (c01_rng _)⟩, fun a e h9 => h9⟩
  · rintro E h1 ⟨rfl, rfl, h0⟩
    exact ⟨_, ⟨SXk _ (c01_rng _), c01_f (inn_f.mpr h0), rfl⟩, fun a e h9 => h9⟩
set_option maxRecDepth 100000 in
theorem J_racksFor (l : Launch) (g : gT) {x : Nat} {h : fH} {σ : sT} (hX : SX g x h σ) (n p w c : Int) (hn_ : -2147483648 ≤ n ∧ n ≤ 2147483647) (hp_ : -2147483648 ≤ p ∧ p ≤ 2147483647) (hw_ : -2147483648 ≤ w ∧ w ≤ 2147483647) (hc_ : -2147483648 ≤ c ∧ c ≤ 2147483647) : CM l g yX4_racksFor cX4_racksFor 8 (some .int) { frames := 12, cells := 5, slots := 31, locals := 186 } [.ref x, .int (iI n), .int (iI p), .int (iI w), .int (iI c)] h (fun v h1 => c01 (m_kind n p w c) = 0 ∧ v = some (.int (iI (rF_a σ n p w c))) ∧ SX g x h1 (su σ 0 0 (c01 (m_kind n p w c)))) (fun E h1 => SX g x h1 (su σ 0 0 (c01 (m_kind n p w c))) ∧ ((c01 (m_kind n p w c) = 1 ∧ E = "java/lang/IllegalArgumentException"))) := by
  obtain ⟨P, K, r, cp, b, b', τ, rfl, rfl, hk, hR⟩ := hX
  obtain ⟨hb, hb2, hbb, hV, hW, hPC, hWn, hB, hI, hA, hN, hNI, hML, hS, hP, hC, hL, hRV⟩ := hR.facts
  have hm := mb_nm hB
  have hn := mb_nr hB
  have SXk : ∀ v : Int, 0 ≤ v ∧ v ≤ 3 → SX g (P 0) (cheap g P K r cp b b' τ) (su σ 0 0 v) := fun v hv => ⟨P, K, r, cp, b, b', τ, rfl, rfl, hk, hR.c0 hv⟩
  refine CM.mono (k_X4_racksFor l g hk hb hb2 hV hW hPC (n := n) (hn := hn_) (p := p) (hp := hp_) (w := w) (hw := hw_) (c := c) (hc := hc_)) ?_ ?_
  · rintro v h1 ⟨rfl, h0, q, q1, q2, rfl⟩
    have e : c01 (m_kind n p w c) = 0 := c01_t (kd_kind.mp h0)
    have hs := smoMb hV (q := q) h0
    refine ⟨_, ⟨e, ?_, SXk _ (c01_rng _)⟩, fun a e h9 => h9⟩
    rw [show rF_a σ n p w c = sm (rF_t σ n p w c) (σ 5 0) from if_pos e, hS.1]
    refine congrArg (fun z => some (Value.int (iI z))) (sm_cong hn.1 (fun k a b9 => ?_))
    have ef := lk_fitne hB hRV (smo_S (q := q) (n := τ 0 0) (s := n) (p := p) (w := w) (c := c) hS) (smo_L hb hL) a b9 hs.1
    rw [hs.2.1, hs.2.2.1, hs.2.2.2.1, hs.2.2.2.2] at ef
    unfold cRt rF_t
    by_cases z : cFit r (smo τ q (τ 0 0) n p w c) b k q = -1
    · rw [if_pos z, if_pos (ef.mp z)]
    · rw [if_neg z, if_neg (fun y => z (ef.mpr y))]
  · rintro E h1 ⟨rfl, rfl, h0⟩
    refine ⟨_, ⟨SXk _ (c01_rng _), c01_f ?_, rfl⟩, fun a e h9 => h9⟩
    cases hq : m_kind n p w c with
    | false => rfl
    | true => exact absurd (kd_kind.mpr hq) h0
set_option maxRecDepth 100000 in
theorem J_roomByCounting (l : Launch) (g : gT) {x : Nat} {h : fH} {σ : sT} (hX : SX g x h σ) (n p w c : Int) (hn_ : -2147483648 ≤ n ∧ n ≤ 2147483647) (hp_ : -2147483648 ≤ p ∧ p ≤ 2147483647) (hw_ : -2147483648 ≤ w ∧ w ≤ 2147483647) (hc_ : -2147483648 ≤ c ∧ c ≤ 2147483647) : CM l g yX4_roomByCounting cX4_roomByCounting 9 (some .int) { frames := 12, cells := 5, slots := 31, locals := 186 } [.ref x, .int (iI n), .int (iI p), .int (iI w), .int (iI c)] h (fun v h1 => c01 (m_kind n p w c) = 0 ∧ v = some (.int (iI (rc_a σ n p w c))) ∧ SX g x h1 (su σ 0 0 (c01 (m_kind n p w c)))) (fun E h1 => SX g x h1 (su σ 0 0 (c01 (m_kind n p w c))) ∧ ((c01 (m_kind n p w c) = 1 ∧ E = "java/lang/IllegalArgumentException"))) := by
  obtain ⟨P, K, r, cp, b, b', τ, rfl, rfl, hk, hR⟩ := hX
  obtain ⟨hb, hb2, hbb, hV, hW, hPC, hWn, hB, hI, hA, hN, hNI, hML, hS, hP, hC, hL, hRV⟩ := hR.facts
  have hm := mb_nm hB
  have hn := mb_nr hB
  have SXk : ∀ v : Int, 0 ≤ v ∧ v ≤ 3 → SX g (P 0) (cheap g P K r cp b b' τ) (su σ 0 0 v) := fun v hv => ⟨P, K, r, cp, b, b', τ, rfl, rfl, hk, hR.c0 hv⟩
  have hml := lk_ml hB hRV hS hL hML
  refine CM.mono (k_X4_roomByCounting l g hk hb hb2 hV hW hPC hml.1 hml.2 (n := n) (hn := hn_) (p := p) (hp := hp_) (w := w) (hw := hw_) (c := c) (hc := hc_)) ?_ ?_
  · rintro v h1 ⟨rfl, h0, q, q1, q2, rfl⟩
    have e : c01 (m_kind n p w c) = 0 := c01_t (kd_kind.mp h0)
    have hs := smoMb hV (q := q) h0
    refine ⟨_, ⟨e, ?_, SXk _ (c01_rng _)⟩, fun a e h9 => h9⟩
    rw [show rc_a σ n p w c = rc_all σ n p w c from if_pos e, lk_ca hB hRV (smo_S hS) (smo_L hb hL) hs.1, hs.2.1, hs.2.2.1, hs.2.2.2.1, hs.2.2.2.2]
  · rintro E h1 ⟨rfl, rfl, h0⟩
    refine ⟨_, ⟨SXk _ (c01_rng _), c01_f ?_, rfl⟩, fun a e h9 => h9⟩
    cases hq : m_kind n p w c with
    | false => rfl
    | true => exact absurd (kd_kind.mpr hq) h0
