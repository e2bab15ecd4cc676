/-! ===== the law: the walk over the machines ===== -/
theorem sm_updr {f g : Int → Int} {n k : Int} (h0 : 0 ≤ k) (h1 : k < n) (h : ∀ j, 0 ≤ j → j < n → j ≠ k → f j = g j) : sm f n = sm g n + (f k - g k) := by
  rw [sm_cong (g := fun j => g j + (if j = k then f k - g k else 0)) (by omega) (fun j a b => ?_), sm_add _ _ (by omega), sm_one _ _ (by omega), if_pos ⟨h0, h1⟩]
  by_cases e : j = k
  · subst e; rw [if_pos rfl]; omega
  · rw [if_neg e, h j a b e]; omega
theorem nb_spec {σ : sT} (hB : MB σ) (bh : Int) : (m_nb σ bh (σ 17 0) = -1 ∧ ∀ k, 0 ≤ k → k < σ 17 0 → ¬ bh < m_way σ k) ∨ (0 ≤ m_nb σ bh (σ 17 0) ∧ m_nb σ bh (σ 17 0) < σ 17 0 ∧ bh < m_way σ (m_nb σ bh (σ 17 0)) ∧ ∀ k, 0 ≤ k → k < σ 17 0 → bh < m_way σ k → m_way σ (m_nb σ bh (σ 17 0)) ≤ m_way σ k) := by
  have hm := mb_nm hB
  refine sm_ind (p := fun n => (m_nb σ bh n = -1 ∧ ∀ k, 0 ≤ k → k < n → ¬ bh < m_way σ k) ∨ (0 ≤ m_nb σ bh n ∧ m_nb σ bh n < n ∧ bh < m_way σ (m_nb σ bh n) ∧ ∀ k, 0 ≤ k → k < n → bh < m_way σ k → m_way σ (m_nb σ bh n) ≤ m_way σ k)) (σ 17 0) (Or.inl ⟨rfl, fun k a b => by omega⟩) (fun k h0 _ hk => ?_) hm.1
  rw [m_nb_s _ _ h0]
  rcases hk with ⟨a1, a2⟩ | ⟨a1, a2, a3, a4⟩
  · by_cases c : bh < m_way σ k
    · rw [if_pos ⟨c, Or.inl a1⟩]
      refine Or.inr ⟨h0, by omega, c, fun j b1 b2 b3 => ?_⟩
      by_cases z : j = k
      · rw [z]; exact Int.le_refl _
      · exact absurd b3 (a2 j b1 (by omega))
    · rw [if_neg (fun z => c z.1)]
      refine Or.inl ⟨a1, fun j b1 b2 => ?_⟩
      by_cases z : j = k
      · rw [z]; exact c
      · exact a2 j b1 (by omega)
  · by_cases c : bh < m_way σ k ∧ (m_nb σ bh k = -1 ∨ m_way σ k < m_way σ (m_nb σ bh k))
    · rw [if_pos c]
      refine Or.inr ⟨h0, by omega, c.1, fun j b1 b2 b3 => ?_⟩
      by_cases z : j = k
      · rw [z]; exact Int.le_refl _
      · have := a4 j b1 (by omega) b3
        rcases c.2 with q | q
        · omega
        · omega
    · rw [if_neg c]
      refine Or.inr ⟨a1, by omega, a3, fun j b1 b2 b3 => ?_⟩
      by_cases z : j = k
      · rw [z]
        rw [z] at b3
        have : ¬ (m_nb σ bh k = -1 ∨ m_way σ k < m_way σ (m_nb σ bh k)) := fun y => c ⟨b3, y⟩
        omega
      · exact a4 j b1 (by omega) b3
section WM
variable {σ : sT}
theorem IV.mb (h : IV σ) : MB σ := h.1
/-- what is known of a machine that is placed -/
theorem IV.mach (h : IV σ) {k : Int} (h0 : 0 ≤ k) (h1 : k < σ 17 0) : (0 ≤ σ 15 k ∧ σ 15 k < σ 5 0) ∧ (0 ≤ σ 16 k ∧ σ 16 k + σ 11 k ≤ σ 2 (σ 15 k)) ∧ (1 ≤ σ 11 k ∧ σ 11 k ≤ 6) ∧ (1 ≤ σ 2 (σ 15 k) ∧ σ 2 (σ 15 k) ≤ 20) ∧ (0 ≤ σ 10 k ∧ σ 10 k ≤ 1000000) ∧ m_way σ k = 20 * σ 15 k + σ 16 k ∧ m_find σ (σ 10 k) = k ∧ σ 10 k < σ 18 0 ∧ (0 ≤ σ 12 k ∧ σ 12 k ≤ 2000) ∧ (0 ≤ σ 14 k ∧ σ 14 k ≤ 2) := by
  obtain ⟨hB, hI, hA, hN, hNI, hML⟩ := h
  have hm := mb_nm hB
  have c := lk_cell hB hI hA h0 h1
  have h10 : (0 : Int) ≤ σ 10 k ∧ σ 10 k ≤ 1000000 := hB 10 k h0 (show k < (60 : Int) by omega)
  have h11 : (0 : Int) ≤ σ 11 k ∧ σ 11 k ≤ 6 := hB 11 k h0 (show k < (60 : Int) by omega)
  have h12 : (0 : Int) ≤ σ 12 k ∧ σ 12 k ≤ 2000 := hB 12 k h0 (show k < (60 : Int) by omega)
  have h14 : (0 : Int) ≤ σ 14 k ∧ σ 14 k ≤ 2 := hB 14 k h0 (show k < (60 : Int) by omega)
  exact ⟨by omega, by omega, by omega, by omega, h10, rfl, find_at hB hNI h0 h1, hNI.2 k h0 h1, h12, h14⟩
theorem IV.wne (h : IV σ) {j k : Int} (j0 : 0 ≤ j) (j1 : j < σ 17 0) (k0 : 0 ≤ k) (k1 : k < σ 17 0) (ne : j ≠ k) : m_way σ j ≠ m_way σ k := by
  have a := h.mach j0 j1
  have b := h.mach k0 k1
  obtain ⟨hB, hI, hA, hN, hNI, hML⟩ := h
  intro e
  have e1 : σ 15 j = σ 15 k := by omega
  have := hN j k j0 j1 k0 k1 ne (hA j j0 j1) e1
  omega
theorem IV.at_ (h : IV σ) {k s : Int} (k0 : 0 ≤ k) (k1 : k < σ 17 0) (hs : σ 16 k ≤ s ∧ s < σ 16 k + σ 11 k) : m_inSlot σ (σ 15 k) s = k := by
  have a := h.mach k0 k1
  exact inSlot_at h.1 h.2.2.2.1 k0 k1 (by omega) ⟨rfl, hs⟩
theorem IV.mAt_ (h : IV σ) {k s : Int} (k0 : 0 ≤ k) (k1 : k < σ 17 0) (hs : σ 16 k ≤ s ∧ s < σ 16 k + σ 11 k) : mAt σ (σ 15 k) s = σ 10 k := by
  unfold mAt
  rw [h.at_ k0 k1 hs, if_neg (by omega)]
theorem nxt_cases (h : IV σ) (bh : Int) : (nxt σ bh = -1 ∧ ∀ k, 0 ≤ k → k < σ 17 0 → ¬ bh < m_way σ k) ∨ ∃ K, 0 ≤ K ∧ K < σ 17 0 ∧ nxt σ bh = σ 10 K ∧ bh < m_way σ K ∧ ∀ k, 0 ≤ k → k < σ 17 0 → bh < m_way σ k → m_way σ K ≤ m_way σ k := by
  unfold nxt
  rcases nb_spec h.1 bh with ⟨a, b⟩ | ⟨a, b, c, d⟩
  · rw [if_pos a]; exact Or.inl ⟨rfl, b⟩
  · rw [if_neg (by omega)]; exact Or.inr ⟨_, a, b, rfl, c, d⟩
/-- the sum of q over the machines ahead of a way -/
def ws (σ : sT) (q : Int → Int) (t : Int) : Int := sm (fun k => if m_way σ k < t then q k else 0) (σ 17 0)
variable {q : Int → Int}
theorem ws_same (h : IV σ) {t t' : Int} (hs : ∀ k, 0 ≤ k → k < σ 17 0 → (m_way σ k < t ↔ m_way σ k < t')) : ws σ q t = ws σ q t' := by
  have hm := mb_nm h.1
  refine sm_cong hm.1 (fun k a b => ?_)
  have := hs k a b
  by_cases c : m_way σ k < t
  · rw [if_pos c, if_pos (this.mp c)]
  · rw [if_neg c, if_neg (fun z => c (this.mpr z))]
theorem ws_hit (h : IV σ) {K t : Int} (k0 : 0 ≤ K) (k1 : K < σ 17 0) (ht : m_way σ K = t) : ws σ q (t + 1) = ws σ q t + q K := by
  subst ht
  unfold ws
  rw [sm_updr (f := fun k => if m_way σ k < m_way σ K + 1 then q k else 0) (g := fun k => if m_way σ k < m_way σ K then q k else 0) k0 k1 (fun j a b c => ?_)]
  · show _ + ((if m_way σ K < m_way σ K + 1 then q K else 0) - (if m_way σ K < m_way σ K then q K else 0)) = _
    rw [if_pos (by omega), if_neg (by omega)]
    omega
  · have := h.wne a b k0 k1 c
    show (if m_way σ j < m_way σ K + 1 then q j else 0) = (if m_way σ j < m_way σ K then q j else 0)
    by_cases z : m_way σ j < m_way σ K
    · rw [if_pos z, if_pos (by omega)]
    · rw [if_neg z, if_neg (by omega)]
theorem ws_miss (h : IV σ) {t : Int} (hn : ∀ k, 0 ≤ k → k < σ 17 0 → m_way σ k ≠ t) : ws σ q (t + 1) = ws σ q t :=
  ws_same h (fun k a b => by have := hn k a b; omega)
theorem ws_step (h : IV σ) {K bh : Int} (k0 : 0 ≤ K) (k1 : K < σ 17 0) (hb : bh < m_way σ K) (hl : ∀ k, 0 ≤ k → k < σ 17 0 → bh < m_way σ k → m_way σ K ≤ m_way σ k) : ws σ q (m_way σ K + 1) = ws σ q (bh + 1) + q K := by
  rw [ws_hit h k0 k1 rfl, ws_same h (t := m_way σ K) (t' := bh + 1) (fun k a b => ?_)]
  have := hl k a b
  omega
theorem ws_end (h : IV σ) {bh : Int} (hn : ∀ k, 0 ≤ k → k < σ 17 0 → ¬ bh < m_way σ k) : ws σ q (bh + 1) = sm q (σ 17 0) := by
  have hm := mb_nm h.1
  refine sm_cong hm.1 (fun k a b => ?_)
  have := hn k a b
  exact if_pos (by omega)
theorem ws_0 (h : IV σ) : ws σ q 0 = 0 := by
  have hm := mb_nm h.1
  unfold ws
  rw [sm_cong (g := fun _ => 0) hm.1 (fun k a b => ?_), sm_zero hm.1]
  have := h.mach a b
  exact if_neg (by omega)
theorem sm_const1 {n : Int} (hn : 0 ≤ n) : sm (fun _ => 1) n = n := by
  refine sm_ind (p := fun n => sm (fun _ => 1) n = n) n rfl (fun k a _ ih => ?_) hn
  rw [sm_s _ a, ih]
/-- how many machines are ahead of a way -/
def cw (σ : sT) (t : Int) : Int := ws σ (fun _ => 1) t
theorem cw_rng (h : IV σ) (t : Int) : 0 ≤ cw σ t ∧ cw σ t ≤ σ 17 0 := by
  have hm := mb_nm h.1
  have := sm_le (f := fun k => if m_way σ k < t then (1 : Int) else 0) (a := 0) (b := 1) hm.1 (fun k a b => by
    show 0 ≤ (if m_way σ k < t then (1 : Int) else 0) ∧ (if m_way σ k < t then (1 : Int) else 0) ≤ 1
    split <;> omega)
  show 0 ≤ sm (fun k => if m_way σ k < t then (1 : Int) else 0) (σ 17 0) ∧ sm (fun k => if m_way σ k < t then (1 : Int) else 0) (σ 17 0) ≤ σ 17 0
  omega
theorem cw_all (h : IV σ) {t : Int} (hn : ∀ k, 0 ≤ k → k < σ 17 0 → m_way σ k < t) : cw σ t = σ 17 0 := by
  have hm := mb_nm h.1
  have := ws_end (q := fun _ => 1) h (bh := t - 1) (fun k a b => by have := hn k a b; omega)
  rw [show t - 1 + 1 = t by omega, sm_const1 hm.1] at this
  exact this
theorem cw_rack (h : IV σ) {r : Int} (r0 : 0 ≤ r ∧ r < σ 5 0) : cw σ (20 * r + σ 2 r) = cw σ (20 * (r + 1)) := by
  refine ws_same h (fun k a b => ?_)
  have c := h.mach a b
  have hn := mb_nr h.1
  have := lk_slots h.1 r0.1 (by omega)
  by_cases e : σ 15 k = r
  · rw [e] at c; omega
  · omega
/-- a slot of the walk through racks and slots -/
theorem slot_miss (h : IV σ) {r s : Int} (r0 : 0 ≤ r) (s0 : 0 ≤ s ∧ s < 20) (hm : m_inSlot σ r s = -1) : cw σ (20 * r + s + 1) = cw σ (20 * r + s) := by
  refine ws_miss h (fun k a b z => ?_)
  have c := h.mach a b
  have e : σ 15 k = r := by omega
  have := h.at_ a b (s := s) (by omega)
  rw [e, hm] at this
  omega
theorem slot_in (h : IV σ) {r s : Int} (hm : m_inSlot σ r s ≠ -1) : ∃ K, m_inSlot σ r s = K ∧ 0 ≤ K ∧ K < σ 17 0 ∧ σ 15 K = r ∧ σ 16 K ≤ s ∧ s < σ 16 K + σ 11 K ∧ mAt σ r s = σ 10 K := by
  rcases inSlot_cases h.1 r s with z | z
  · exact absurd z.1 hm
  · refine ⟨_, rfl, z.1, z.2.1, z.2.2.1, z.2.2.2.1, z.2.2.2.2, ?_⟩
    unfold mAt
    rw [if_neg hm]
theorem slot_low (h : IV σ) {r s K : Int} (k0 : 0 ≤ K) (k1 : K < σ 17 0) (e : σ 15 K = r) (es : σ 16 K = s) : cw σ (20 * r + s + 1) = cw σ (20 * r + s) + 1 :=
  ws_hit h k0 k1 (by have := h.mach k0 k1; omega)
theorem slot_up (h : IV σ) {r s K : Int} (s0 : 0 ≤ s ∧ s < 20) (k0 : 0 ≤ K) (k1 : K < σ 17 0) (e : σ 15 K = r) (es : σ 16 K < s ∧ s < σ 16 K + σ 11 K) : cw σ (20 * r + s + 1) = cw σ (20 * r + s) := by
  refine ws_miss h (fun k a b z => ?_)
  have c := h.mach a b
  have c2 := h.mach k0 k1
  have e2 : σ 15 k = r := by omega
  have h1 := h.at_ a b (s := s) (by omega)
  have h2 := h.at_ k0 k1 (s := s) (by omega)
  rw [e2] at h1
  rw [e, h1] at h2
  subst h2
  omega
end WM
