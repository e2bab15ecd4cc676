/-! ===== the law: what is told of a kind of machines ===== -/
theorem wi_dec {a l u : Int} (hu : 0 ≤ u) : m_wi (a - 1) (l - u) u = m_wi a l u - 1 := by
  rw [← am_wi hu, ← am_wi hu]
  unfold cAM
  by_cases h : u ≤ 0
  · rw [if_pos h, if_pos h]
  · rw [if_neg h, if_neg h]
    have e : (l - u) / u = l / u - 1 := by
      have h1 := Int.add_mul_ediv_right l (-1) (show u ≠ 0 by omega)
      rw [show l - u = l + -1 * u by omega, h1]
      omega
    omega
theorem wi_mono {a b l u : Int} (hu : 0 ≤ u) (h : a ≤ b) : m_wi a l u ≤ m_wi b l u := by
  rw [← am_wi hu, ← am_wi hu]
  unfold cAM
  split <;> omega
theorem wi_le {a l u : Int} (hu : 0 ≤ u) : m_wi a l u ≤ a := by
  rw [← am_wi hu]
  unfold cAM
  split <;> omega
theorem wi_ge {a l u x : Int} (hu : 0 ≤ u) (hl : 0 ≤ l) : x ≤ m_wi a l u ↔ x ≤ a ∧ x * u ≤ l := by
  rw [← am_wi hu]
  exact am_le hu hl
theorem sm_pos {g : Int → Int} {n : Int} (hn : 0 ≤ n) (h0 : ∀ k, 0 ≤ k → k < n → 0 ≤ g k) : 1 ≤ sm g n ↔ ∃ k, 0 ≤ k ∧ k < n ∧ 1 ≤ g k := by
  have key : ∀ m, 0 ≤ m → m ≤ n → 0 ≤ sm g m ∧ (1 ≤ sm g m ↔ ∃ k, 0 ≤ k ∧ k < m ∧ 1 ≤ g k) := by
    intro m hm
    refine sm_ind (p := fun m => m ≤ n → 0 ≤ sm g m ∧ (1 ≤ sm g m ↔ ∃ k, 0 ≤ k ∧ k < m ∧ 1 ≤ g k)) m (fun _ => ⟨Int.le_refl _, ?_⟩) (fun k a _ ih hle => ?_) hm
    · rw [sm_0]
      constructor
      · intro z; omega
      · rintro ⟨k, a, b, _⟩; omega
    · obtain ⟨i1, i2⟩ := ih (by omega)
      have hk := h0 k a (by omega)
      rw [sm_s _ a]
      refine ⟨by omega, fun z => ?_, ?_⟩
      · by_cases y : 1 ≤ g k
        · exact ⟨k, a, by omega, y⟩
        · obtain ⟨j, q1, q2, q3⟩ := i2.mp (by omega)
          exact ⟨j, q1, by omega, q3⟩
      · rintro ⟨j, q1, q2, q3⟩
        by_cases y : j = k
        · subst y; omega
        · have := i2.mpr ⟨j, q1, by omega, q3⟩
          omega
  exact (key n hn (Int.le_refl _)).2
section TM
variable {σ σ' : sT} {n p w c R S : Int}
/-- a machine more: the last one, in rack R from slot S -/
def Grown (σ σ' : sT) (n p w c R S : Int) : Prop := (∀ (f : Nat) (z : Int), 1 ≤ f → f ≤ 9 → σ' f z = σ f z) ∧ σ' 17 0 = σ 17 0 + 1 ∧ σ' 18 0 = σ 18 0 + 1 ∧ (∀ (f : Nat) (j : Int), 10 ≤ f → f ≤ 16 → 0 ≤ j → j < σ 17 0 → σ' f j = σ f j) ∧ σ' 10 (σ 17 0) = σ 18 0 ∧ σ' 11 (σ 17 0) = n ∧ σ' 12 (σ 17 0) = p ∧ σ' 13 (σ 17 0) = w ∧ σ' 14 (σ 17 0) = c ∧ σ' 15 (σ 17 0) = R ∧ σ' 16 (σ 17 0) = S
theorem pl_yes (hB : MB σ) (hkd : cKD n p w c) (h : pl_c σ n p w c = 0) : σ 17 0 < 60 ∧ (0 ≤ m_prA σ n p w c ∧ m_prA σ n p w c < σ 5 0) ∧ m_slotIn σ (m_prA σ n p w c) n p w c ≠ -1 ∧ Grown σ (pl_s σ n p w c) n p w c (m_prA σ n p w c) (m_slotIn σ (m_prA σ n p w c) n p w c) := by
  have hm := mb_nm hB
  have e1 : pl_c1 σ n p w c = 0 := by
    unfold pl_c at h
    split at h <;> omega
  have e2 : pl_r σ n p w c ≠ -1 := fun z => by
    unfold pl_c at h
    rw [if_pos e1, if_pos z] at h
    omega
  have e3 : σ 17 0 ≠ 60 := fun z => by
    unfold pl_c1 at e1
    rw [if_pos (kd_kind.mp hkd), if_pos z] at e1
    omega
  have hr := pl_r_eq hB n p w c
  have ht := pl_t_eq hB n p w c
  have hp := (m_prA_rng hB n p w c).resolve_left (by rw [← hr]; exact e2)
  obtain ⟨p11, p12, p13, p14, p10⟩ := pl_11 σ n p w c
  have pag := pl_ag (σ := σ) n p w c
  have es : pl_s σ n p w c = su (su (su (su (su (pl_S σ n p w c) 15 (σ 17 0) (m_prA σ n p w c)) 16 (σ 17 0) (m_slotIn σ (m_prA σ n p w c) n p w c)) 0 0 0) 17 0 (σ 17 0 + 1)) 18 0 (σ 18 0 + 1) := by
    unfold pl_s
    rw [if_pos e1, if_neg e2, hr, ht]
  refine ⟨by omega, ⟨hp.1, hp.2.1⟩, hp.2.2, ?_⟩
  rw [es]
  refine ⟨fun f z a b => ?_, ?_, ?_, fun f j a b x y => ?_, p10, p11, p12, p13, p14, iup_s _ _ _, iup_s _ _ _⟩
  · rw [su_n (by omega), su_n (by omega), su_n (by omega), su_n (by omega), su_n (by omega)]
    exact pag.1 f z a b
  · rfl
  · rfl
  · rw [su_n (by omega), su_n (by omega), su_n (by omega), su_ne (by omega), su_ne (by omega)]
    exact pag.2.2.2 f j a b x y
theorem pl_not (hB : MB σ) (hkd : cKD n p w c) (h : ¬ pl_c σ n p w c = 0) : (σ 17 0 = 60 ∨ m_prA σ n p w c = -1) ∧ Ag σ (pl_s σ n p w c) := by
  have hr := pl_r_eq hB n p w c
  have pag := pl_ag (σ := σ) n p w c
  have ag0 : ∀ v, Ag σ (su (pl_S σ n p w c) 0 0 v) := fun v => ⟨fun f z a b => by rw [su_n (by omega)]; exact pag.1 f z a b, pag.2.1, pag.2.2.1, fun f j a b x y => by rw [su_n (by omega)]; exact pag.2.2.2 f j a b x y⟩
  have ag1 : ∀ v, Ag σ (su σ 0 0 v) := fun v => ⟨fun f z a b => by rw [su_n (by omega)], rfl, rfl, fun f j a b x y => by rw [su_n (by omega)]⟩
  unfold pl_c at h
  unfold pl_s
  by_cases e1 : pl_c1 σ n p w c = 0
  · rw [if_pos e1] at h ⊢
    by_cases e2 : pl_r σ n p w c = -1
    · rw [if_pos e2]
      exact ⟨Or.inr (by rw [← hr]; exact e2), ag0 2⟩
    · rw [if_neg e2] at h
      exact absurd rfl h
  · rw [if_neg e1]
    refine ⟨Or.inl ?_, ag1 _⟩
    unfold pl_c1 at e1
    rw [if_pos (kd_kind.mp hkd)] at e1
    by_cases z : σ 17 0 = 60
    · exact z
    · rw [if_neg z] at e1
      exact absurd rfl e1
theorem pl_iff (hB : MB σ) (hkd : cKD n p w c) : pl_c σ n p w c = 0 ↔ (σ 17 0 < 60 ∧ m_prA σ n p w c ≠ -1) := by
  have hm := mb_nm hB
  constructor
  · intro h
    have := pl_yes hB hkd h
    exact ⟨this.1, by omega⟩
  · intro h
    by_cases z : pl_c σ n p w c = 0
    · exact z
    · have := (pl_not hB hkd z).1
      omega
/-- sums with a machine more -/
theorem Grown.we (g : Grown σ σ' n p w c R S) (hB : MB σ) (k : Int) : m_weighs σ' k = m_weighs σ k + if R = k then w else 0 := by
  obtain ⟨g1, g2, g3, g4, g10, g11, g12, g13, g14, g15, g16⟩ := g
  have hm := mb_nm hB
  unfold m_weighs
  rw [g2, sm_s _ hm.1, sm_cong (g := m_we σ k) hm.1 (fun j a b => by unfold m_we; rw [g4 15 j (by decide) (by decide) a b, g4 13 j (by decide) (by decide) a b])]
  congr 1
  unfold m_we
  rw [g15, g13]
theorem Grown.hh (g : Grown σ σ' n p w c R S) (hB : MB σ) (k : Int) : m_hts σ' k = m_hts σ k + if R = k then p else 0 := by
  obtain ⟨g1, g2, g3, g4, g10, g11, g12, g13, g14, g15, g16⟩ := g
  have hm := mb_nm hB
  unfold m_hts
  rw [g2, sm_s _ hm.1, sm_cong (g := m_hh σ k) hm.1 (fun j a b => by unfold m_hh; rw [g4 15 j (by decide) (by decide) a b, g4 12 j (by decide) (by decide) a b])]
  congr 1
  unfold m_hh
  rw [g15, g12]
theorem Grown.wo (g : Grown σ σ' n p w c R S) (hB : MB σ) {k : Int} (hk : 0 ≤ k) (f : Int) : m_worst σ' k f = m_worst σ k f + if R = k then m_pw c f p else 0 := by
  obtain ⟨g1, g2, g3, g4, g10, g11, g12, g13, g14, g15, g16⟩ := g
  have hm := mb_nm hB
  unfold m_worst
  rw [g2, sm_s _ hm.1, sm_cong (g := m_wo σ k f) hm.1 (fun j a b => by rw [wo_r hk, wo_r hk, g4 15 j (by decide) (by decide) a b, g4 14 j (by decide) (by decide) a b, g4 12 j (by decide) (by decide) a b])]
  congr 1
  rw [wo_r hk, g15, g14, g12]
  rfl
theorem Grown.all (g : Grown σ σ' n p w c R S) (h : IV σ) (h' : IV σ') (hR : 0 ≤ R ∧ R < σ 5 0) : (∀ row, m_rowWeighs σ' row = m_rowWeighs σ row + if σ 1 R = row then w else 0) ∧ (∀ row, m_rowHeats σ' row = m_rowHeats σ row + if σ 1 R = row then p else 0) ∧ m_worst σ' (-1) 0 = m_worst σ (-1) 0 + m_pw c 0 p ∧ m_worst σ' (-1) 1 = m_worst σ (-1) 1 + m_pw c 1 p := by
  obtain ⟨s1, s2, s3, s4⟩ := sums_add (σ := σ) (σ' := σ') h.1 h'.1 h.2.1.rv h'.2.1.rv (fun z => g.1 1 z (by decide) (by decide)) (g.1 5 0 (by decide) (by decide)) hR (w := w) (p := p) (q0 := m_pw c 0 p) (q1 := m_pw c 1 p) (fun k a b => ⟨g.we h.1 k, g.hh h.1 k, g.wo h.1 a 0, g.wo h.1 a 1⟩)
  exact ⟨s1, s2, s3, s4⟩
theorem ff_s (q : Int → Bool) {m : Int} (hm : 0 ≤ m) : ff q (m + 1) = if ff q m ≠ -1 then ff q m else if q m = true then m else -1 := by
  unfold ff
  rw [show (m + 1).toNat = m.toNat + 1 by omega]
  show (if ffN q m.toNat ≠ -1 then ffN q m.toNat else if q ((m.toNat : Nat) : Int) = true then ((m.toNat : Nat) : Int) else -1) = _
  rw [show ((m.toNat : Nat) : Int) = m by omega]
theorem Grown.is (g : Grown σ σ' n p w c R S) (hB : MB σ) (r s : Int) : m_inSlot σ' r s = if m_inSlot σ r s ≠ -1 then m_inSlot σ r s else if R = r ∧ S ≤ s ∧ s < S + n then σ 17 0 else -1 := by
  obtain ⟨g1, g2, g3, g4, g10, g11, g12, g13, g14, g15, g16⟩ := g
  have hm := mb_nm hB
  unfold m_inSlot
  rw [g2, ff_s _ hm.1, ff_cong (q := m_ins σ r s) hm.1 (fun j a b => by unfold m_ins; rw [g4 15 j (by decide) (by decide) a b, g4 16 j (by decide) (by decide) a b, g4 11 j (by decide) (by decide) a b])]
  have e : m_ins σ' r s (σ 17 0) = true ↔ R = r ∧ S ≤ s ∧ s < S + n := by rw [ins_iff, g15, g16, g11]
  by_cases z : R = r ∧ S ≤ s ∧ s < S + n
  · rw [if_pos (e.mpr z), if_pos z]
  · rw [if_neg (fun y => z (e.mp y)), if_neg z]
theorem Grown.is_in (g : Grown σ σ' n p w c R S) (hB : MB σ) {s : Int} (hs : S ≤ s ∧ s < S + n) (hf : m_inSlot σ R s = -1) : m_inSlot σ' R s = σ 17 0 := by
  rw [g.is hB R s, hf, if_neg (fun z => z rfl), if_pos (show R = R ∧ S ≤ s ∧ s < S + n from ⟨rfl, hs⟩)]
theorem Grown.is_out (g : Grown σ σ' n p w c R S) (hB : MB σ) {r s : Int} (hs : ¬ (R = r ∧ S ≤ s ∧ s < S + n)) : m_inSlot σ' r s = m_inSlot σ r s := by
  rw [g.is hB r s]
  by_cases y : m_inSlot σ r s = -1
  · rw [y, if_neg (fun z => z rfl), if_neg hs]
  · rw [if_pos y]
theorem run_e (σ : sT) (k n : Int) {s : Int} (hs : 0 ≤ s) : m_run σ k n s = rn (m_fe σ k) n s := m_run_eq σ k n hs
theorem free_low (hB : MB σ) {r : Int} (r0 : 0 ≤ r ∧ r < σ 5 0) (hn : 1 ≤ n) : low (m_fe σ r) n (σ 2 r) = if ff (fun s => m_free σ r s n) (σ 2 r) = -1 then -1 else ff (fun s => m_free σ r s n) (σ 2 r) + n - 1 := by
  have hnr := mb_nr hB
  have hs := lk_slots hB r0.1 (by omega)
  exact low_free _ hs.1 hn
theorem slotIn_iff (hB : MB σ) {r : Int} (r0 : 0 ≤ r ∧ r < σ 5 0) (hn : 1 ≤ n) : m_slotIn σ r n p w c ≠ -1 ↔ m_borne σ r p w c = true ∧ 1 ≤ (m_run σ r n (σ 2 r)).1 := by
  have hnr := mb_nr hB
  have hs := lk_slots hB r0.1 (by omega)
  have hl := free_low hB r0 hn
  have hf := ff_rng (fun s => m_free σ r s n) hs.1
  rw [run_e σ r n hs.1]
  unfold m_slotIn
  by_cases b : m_borne σ r p w c = true
  · rw [if_pos b]
    by_cases z : ff (fun s => m_free σ r s n) (σ 2 r) = -1
    · rw [if_pos z] at hl
      have := rn_none hn hs.1 hl
      exact ⟨fun y => absurd z y, fun y => by omega⟩
    · rw [if_neg z] at hl
      have := rn_some (e := m_fe σ r) hn hs.1 (by omega)
      exact ⟨fun _ => ⟨b, this⟩, fun _ => z⟩
  · rw [if_neg b]
    exact ⟨fun y => absurd rfl y, fun y => absurd y.1 b⟩
/-- one run of free slots less, where a machine comes -/
theorem Grown.run (g : Grown σ σ' n p w c R S) (hB : MB σ) (hR : 0 ≤ R ∧ R < σ 5 0) (hn : 1 ≤ n) (hS : m_slotIn σ R n p w c = S) (hS1 : S ≠ -1) : (m_run σ' R n (σ 2 R)).1 = (m_run σ R n (σ 2 R)).1 - 1 := by
  have hnr := mb_nr hB
  have hm := mb_nm hB
  have hs := lk_slots hB hR.1 (by omega)
  have hf := slot_facts hB hR (by omega) hS hS1
  have hl := free_low hB hR hn
  have e1 : ff (fun s => m_free σ R s n) (σ 2 R) = S := by
    unfold m_slotIn at hS
    rw [if_pos hf.1] at hS
    exact hS
  rw [e1, if_neg hS1] at hl
  rw [run_e σ' R n hs.1, run_e σ R n hs.1]
  have h9 := rn_clear (e := m_fe σ R) (e' := m_fe σ' R) hn hs.1 (by omega) (fun t t0 t1 => ?_)
  · omega
  · rw [hl]
    unfold m_fe
    by_cases z : S ≤ t ∧ t < S + n
    · rw [g.is_in hB z (hf.2.2.2.2 t z.1 z.2), if_pos (show S + n - 1 - n + 1 ≤ t ∧ t ≤ S + n - 1 by omega)]
      exact decide_eq_false (by omega)
    · rw [g.is_out hB (fun y => z y.2), if_neg (show ¬ (S + n - 1 - n + 1 ≤ t ∧ t ≤ S + n - 1) by omega)]
theorem Grown.run_n (g : Grown σ σ' n p w c R S) (hB : MB σ) {r : Int} (r0 : 0 ≤ r ∧ r < σ 5 0) (hr : r ≠ R) : (m_run σ' r n (σ 2 r)).1 = (m_run σ r n (σ 2 r)).1 := by
  have hnr := mb_nr hB
  have hs := lk_slots hB r0.1 (by omega)
  rw [run_e σ' r n hs.1, run_e σ r n hs.1, rn_cong (e' := m_fe σ r) hs.1 (fun j a b => ?_)]
  unfold m_fe
  rw [g.is_out hB (fun x => hr x.1.symm)]
theorem pw_nn {c f p : Int} (hp : 0 ≤ p) : 0 ≤ m_pw c f p := by unfold m_pw; split <;> omega
theorem Grown.room (g : Grown σ σ' n p w c R S) (h : IV σ) (hkd : cKD n p w c) (hR : 0 ≤ R ∧ R < σ 5 0) (hS : m_slotIn σ R n p w c = S) (hS1 : S ≠ -1) : m_roomIn σ' R n p w c = m_roomIn σ R n p w c - 1 := by
  have rf : ∀ f a, f = 0 ∨ f = 1 → m_rf σ' R p c f (a - 1) = m_rf σ R p c f a - 1 := by
    intro f a hf
    unfold m_rf
    rw [g.wo h.1 hR.1 f, if_pos rfl, g.1 4 R (by decide) (by decide)]
    by_cases z : cdd c f = true
    · rw [if_pos z, if_pos z]
      unfold m_pw
      rw [if_pos z, show σ 4 R - (m_worst σ R f + p) = σ 4 R - m_worst σ R f - p by omega]
      exact wi_dec (by omega)
    · rw [if_neg z, if_neg z]
  unfold m_roomIn
  rw [g.1 2 R (by decide) (by decide), g.run h.1 hR (by omega) hS hS1, g.we h.1 R, if_pos rfl, g.1 3 R (by decide) (by decide), show σ 3 R - (m_weighs σ R + w) = σ 3 R - m_weighs σ R - w by omega, wi_dec (by omega), rf 0 _ (Or.inl rfl), rf 1 _ (Or.inr rfl)]
theorem Grown.room_n (g : Grown σ σ' n p w c R S) (h : IV σ) {r : Int} (r0 : 0 ≤ r ∧ r < σ 5 0) (hr : r ≠ R) : m_roomIn σ' r n p w c = m_roomIn σ r n p w c := by
  unfold m_roomIn m_rf
  rw [g.1 2 r (by decide) (by decide), g.run_n h.1 r0 hr, g.we h.1 r, if_neg (Ne.symm hr), g.1 3 r (by decide) (by decide), g.1 4 r (by decide) (by decide), g.wo h.1 r0.1 0, g.wo h.1 r0.1 1, if_neg (Ne.symm hr), if_neg (Ne.symm hr), Int.add_zero, Int.add_zero, Int.add_zero]
theorem Grown.rc (g : Grown σ σ' n p w c R S) (h : IV σ) (h' : IV σ') (hkd : cKD n p w c) (hR : 0 ≤ R ∧ R < σ 5 0) (hS : m_slotIn σ R n p w c = S) (hS1 : S ≠ -1) : rc_all σ' n p w c = rc_all σ n p w c - 1 := by
  have hn := mb_nr h.1
  have h1R : (0 : Int) ≤ σ 1 R ∧ σ 1 R ≤ 3 := h.1 1 R hR.1 (show R < (8 : Int) by omega)
  obtain ⟨a1, a2, a3, a4⟩ := g.all h h' hR
  have e5 := g.1 5 0 (by decide) (by decide)
  have et : ∀ row, sm (rc_t σ' n p w c row) (σ' 5 0) = sm (rc_t σ n p w c row) (σ 5 0) - if σ 1 R = row then 1 else 0 := by
    intro row
    rw [e5, sm_updr (f := rc_t σ' n p w c row) (g := rc_t σ n p w c row) hR.1 hR.2 (fun j a b z => by unfold rc_t; rw [g.1 1 j (by decide) (by decide), g.room_n h ⟨a, b⟩ z])]
    unfold rc_t
    rw [g.1 1 R (by decide) (by decide), g.room h hkd hR hS hS1]
    by_cases z : σ 1 R = row
    · rw [if_pos z, if_pos z, if_pos z]; omega
    · rw [if_neg z, if_neg z, if_neg z]; omega
  have er : ∀ row, rc_row σ' n p w c row = rc_row σ n p w c row - if σ 1 R = row then 1 else 0 := by
    intro row
    unfold rc_row
    rw [et row, a1 row, a2 row, g.1 7 row (by decide) (by decide), g.1 6 row (by decide) (by decide)]
    by_cases z : σ 1 R = row
    · rw [if_pos z, if_pos z, if_pos z, show σ 7 row - (m_rowWeighs σ row + w) = σ 7 row - m_rowWeighs σ row - w by omega, show σ 6 row - (m_rowHeats σ row + p) = σ 6 row - m_rowHeats σ row - p by omega, wi_dec (by omega), wi_dec (by omega)]
    · rw [if_neg z, if_neg z, if_neg z, Int.sub_zero, Int.add_zero, Int.add_zero, Int.sub_zero]
  have es : sm (rc_row σ' n p w c) 4 = sm (rc_row σ n p w c) 4 - 1 := by
    rw [sm_updr (f := rc_row σ' n p w c) (g := rc_row σ n p w c) (k := σ 1 R) h1R.1 (by omega) (fun j a b z => by rw [er j, if_neg (Ne.symm z)]; omega), er (σ 1 R), if_pos rfl]
    omega
  have ef : ∀ f a, f = 0 ∨ f = 1 → rc_f σ' p c f (a - 1) = rc_f σ p c f a - 1 := by
    intro f a hf
    have e8 : σ' 8 f = σ 8 f := g.1 8 f (by decide) (by decide)
    have ew : m_worst σ' (-1) f = m_worst σ (-1) f + m_pw c f p := by rcases hf with rfl | rfl; exact a3; exact a4
    unfold rc_f
    rw [e8, ew]
    by_cases z : cdd c f = true
    · rw [if_pos z, if_pos z]
      unfold m_pw
      rw [if_pos z, show σ 8 f - (m_worst σ (-1) f + p) = σ 8 f - m_worst σ (-1) f - p by omega]
      exact wi_dec (by omega)
    · rw [if_neg z, if_neg z]
  unfold rc_all
  rw [es, ef 0 _ (Or.inl rfl), ef 1 _ (Or.inr rfl)]
end TM
