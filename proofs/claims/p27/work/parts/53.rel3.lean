/-! ===== class and reference: the placed machines, simple answers ===== -/
def PRel (r : Nat → Int → Option Nat) (τ σ : sT) : Prop := τ 53 0 = σ 17 0 ∧ (∀ k : Int, 0 ≤ k → k < σ 17 0 → τ 30 (ad r 0 k) = σ 10 k ∧ τ 31 (ad r 0 k) = σ 11 k ∧ τ 32 (ad r 0 k) = σ 12 k ∧ τ 33 (ad r 0 k) = σ 13 k ∧ τ 34 (ad r 0 k) = σ 14 k) ∧ τ 0 0 = σ 18 0 ∧ ∀ z : Int, 0 ≤ z → z < 2 → τ 2 z = σ 9 z
def PCel (r : Nat → Int → Option Nat) (τ σ : sT) : Prop := ∀ k : Int, 0 ≤ k → k < σ 17 0 → τ 35 (ad r 0 k) = σ 15 k * 20 + σ 16 k
/-- what is in a rack is in it wholly -/
def IW (σ : sT) : Prop := ∀ k : Int, 0 ≤ k → k < σ 17 0 → σ 15 k = -1 ∨ (0 ≤ σ 15 k ∧ σ 15 k < σ 5 0 ∧ 0 ≤ σ 16 k ∧ 1 ≤ σ 11 k ∧ σ 16 k + σ 11 k ≤ σ 2 (σ 15 k))
/-- no two in one slot -/
def NO (σ : sT) : Prop := ∀ j k : Int, 0 ≤ j → j < σ 17 0 → 0 ≤ k → k < σ 17 0 → j ≠ k → σ 15 j ≠ -1 → σ 15 j = σ 15 k → σ 16 j + σ 11 j ≤ σ 16 k ∨ σ 16 k + σ 11 k ≤ σ 16 j
/-- numbers rise -/
def NI (σ : sT) : Prop := (∀ j k : Int, 0 ≤ j → j < k → k < σ 17 0 → σ 10 j < σ 10 k) ∧ ∀ k : Int, 0 ≤ k → k < σ 17 0 → σ 10 k < σ 18 0
/-- all are in racks -/
def AP (σ : sT) : Prop := ∀ k : Int, 0 ≤ k → k < σ 17 0 → σ 15 k ≠ -1
theorem IW.rv {σ : sT} (h : IW σ) : RV σ := fun k a b => (h k a b).imp id (fun q => ⟨q.1, q.2.1⟩)
section LK3
variable {K : Nat → Nat} {r : Nat → Int → Option Nat} {cp : Nat → Nat} {τ σ : sT} {w : Nat}
theorem lk_ix (hB : MB σ) (hP : PRel r τ σ) (num : Int) : cIx r τ num = m_find σ num := by
  have hm := mb_nm hB
  unfold cIx m_find
  rw [hP.1]
  exact ff_cong hm.1 (fun j a b => by rw [(hP.2.1 j a b).1])
theorem lk_dk (hB : MB σ) (hP : PRel r τ σ) {k : Int} (h0 : 0 ≤ k) (h1 : k < σ 17 0) : cDk τ (ad r 0 k) = m_dark σ k := by
  have b0 : 0 ≤ σ 9 0 ∧ σ 9 0 ≤ 1 := hB 9 0 (by decide) (by decide)
  have b1 : 0 ≤ σ 9 1 ∧ σ 9 1 ≤ 1 := hB 9 1 (by decide) (by decide)
  have e : ∀ x : Int, 0 ≤ x ∧ x ≤ 1 → decide (¬ x = 0) = decide (x = 1) := fun x hx => by
    rcases (show x = 0 ∨ x = 1 by omega) with rfl | rfl <;> rfl
  unfold cDk m_dark
  rw [hP.2.2.2 0 (by decide) (by decide), hP.2.2.2 1 (by decide) (by decide), (hP.2.1 k h0 h1).2.2.2.2, e _ b0, e _ b1]
theorem lk_tk (hB : MB σ) (hP : PRel r τ σ) {k f : Int} (h0 : 0 ≤ k) (h1 : k < σ 17 0) (hf : 0 ≤ f ∧ f ≤ 1) : cTk τ (ad r 0 k) f = m_tk σ k f := by
  have bf : 0 ≤ σ 9 f ∧ σ 9 f ≤ 1 := hB 9 f hf.1 (show f < (2 : Int) by omega)
  have hk := hP.2.1 k h0 h1
  unfold cTk m_tk
  rw [hP.2.2.2 f hf.1 (by omega), hP.2.2.2 (1 - f) (by omega) (by omega), hk.2.2.2.2, hk.2.2.1]
  by_cases c1 : σ 9 f = 1 ∨ cdd (σ 14 k) f = false
  · rw [if_pos c1, if_pos (c1.imp (fun z => by omega) id)]
  · rw [if_neg c1, if_neg (fun z => c1 (z.imp (fun y => by omega) id))]
    by_cases c2 : σ 14 k = 2 ∧ σ 9 (1 - f) = 0
    · rw [if_pos c2, if_pos c2]
      by_cases c3 : f = 0
      · rw [if_pos c3, if_pos c3]; omega
      · rw [if_neg c3, if_neg c3]
    · rw [if_neg c2, if_neg c2]
theorem lk_cell {σ : sT} (hB : MB σ) (hI : IW σ) (hA : AP σ) {k : Int} (h0 : 0 ≤ k) (h1 : k < σ 17 0) : (0 ≤ σ 15 k ∧ σ 15 k < σ 5 0 ∧ σ 15 k < 8) ∧ 0 ≤ σ 16 k ∧ 1 ≤ σ 11 k ∧ σ 16 k + σ 11 k ≤ σ 2 (σ 15 k) ∧ σ 2 (σ 15 k) ≤ 20 := by
  have hn := mb_nr hB
  rcases hI k h0 h1 with c | c
  · exact absurd c (hA k h0 h1)
  · have := lk_slots hB (k := σ 15 k) c.1 (by omega)
    omega
theorem lk_pc (hB : MB σ) (hI : IW σ) (hA : AP σ) (hS : SRel r τ σ) (hP : PRel r τ σ) (hC : PCel r τ σ) : PC r τ := by
  intro k h0 h1
  rw [hP.1] at h1
  have h := lk_cell hB hI hA h0 h1
  rw [hC k h0 h1, hS.1, (hP.2.1 k h0 h1).2.1]
  omega
theorem lk_rack (hB : MB σ) (hI : IW σ) (hA : AP σ) (hC : PCel r τ σ) {k : Int} (h0 : 0 ≤ k) (h1 : k < σ 17 0) : τ 35 (ad r 0 k) / 20 = σ 15 k ∧ τ 35 (ad r 0 k) % 20 = σ 16 k := by
  have h := lk_cell hB hI hA h0 h1
  rw [hC k h0 h1]
  omega
theorem lk_kt (hB : MB σ) (hP : PRel r τ σ) : sm (cKt r τ) (τ 53 0) = sm (dk σ) (σ 17 0) := by
  have hm := mb_nm hB
  rw [hP.1]
  refine sm_cong hm.1 (fun k a b => ?_)
  unfold cKt dk
  rw [lk_dk hB hP a b]
theorem lk_pt (hB : MB σ) (hI : IW σ) (hA : AP σ) (hP : PRel r τ σ) (hC : PCel r τ σ) {k f : Int} (hf : 0 ≤ f ∧ f ≤ 1) : sm (cPt r τ k f) (τ 53 0) = sm (pwt σ k f) (σ 17 0) := by
  have hm := mb_nm hB
  rw [hP.1]
  refine sm_cong hm.1 (fun j a b => ?_)
  unfold cPt pwt
  rw [lk_tk hB hP a b hf, (lk_rack hB hI hA hC a b).1]
theorem lk_ht (hB : MB σ) (hI : IW σ) (hA : AP σ) (hS : SRel r τ σ) (hP : PRel r τ σ) (hC : PCel r τ σ) (row : Int) : sm (cHt r τ row) (τ 53 0) = sm (hO_t σ row) (σ 17 0) := by
  have hm := mb_nm hB
  rw [hP.1]
  refine sm_cong hm.1 (fun j a b => ?_)
  have hc := lk_cell hB hI hA a b
  unfold cHt hO_t
  rw [lk_dk hB hP a b, (lk_rack hB hI hA hC a b).1, (hS.2.1 (σ 15 j) hc.1.1 hc.1.2.1).1, (hP.2.1 j a b).2.2.1]
/-- which machine's slots a cell is among -/
theorem ins_iff {σ : sT} {R s k : Int} : m_ins σ R s k = true ↔ σ 15 k = R ∧ σ 16 k ≤ s ∧ s < σ 16 k + σ 11 k := by
  unfold m_ins
  rw [Bool.and_eq_true, Bool.and_eq_true, decide_eq_true_eq, decide_eq_true_eq, decide_eq_true_eq]
theorem inSlot_at {σ : sT} (hB : MB σ) (hN : NO σ) {R s k : Int} (h0 : 0 ≤ k) (h1 : k < σ 17 0) (hR : R ≠ -1) (hk : σ 15 k = R ∧ σ 16 k ≤ s ∧ s < σ 16 k + σ 11 k) : m_inSlot σ R s = k := by
  refine ff_at h0 h1 (ins_iff.mpr hk) (fun j a b => ?_)
  cases hj : m_ins σ R s j with
  | false => rfl
  | true =>
    have q := ins_iff.mp hj
    rcases hN j k a (by omega) h0 h1 (by omega) (by omega) (by omega) with z | z <;> omega
theorem inSlot_cases {σ : sT} (hB : MB σ) (R s : Int) : (m_inSlot σ R s = -1 ∧ ∀ k, 0 ≤ k → k < σ 17 0 → ¬ (σ 15 k = R ∧ σ 16 k ≤ s ∧ s < σ 16 k + σ 11 k)) ∨ (0 ≤ m_inSlot σ R s ∧ m_inSlot σ R s < σ 17 0 ∧ σ 15 (m_inSlot σ R s) = R ∧ σ 16 (m_inSlot σ R s) ≤ s ∧ s < σ 16 (m_inSlot σ R s) + σ 11 (m_inSlot σ R s)) := by
  have hm := mb_nm hB
  rcases ff_cases (m_ins σ R s) hm.1 with h | h
  · refine Or.inl ⟨h.1, fun k a b z => ?_⟩
    have := h.2 k a b
    rw [ins_iff.mpr z] at this
    cases this
  · exact Or.inr ⟨h.1, h.2.1, ins_iff.mp h.2.2.1⟩
/-- the class's next -/
theorem lk_next (hB : MB σ) (hI : IW σ) (hA : AP σ) (hN : NO σ) (hL : LR τ w σ) {bh st : Int} (hst : 0 ≤ st) (hb : ∀ k, 0 ≤ k → k < σ 17 0 → (bh < m_way σ k ↔ st ≤ m_way σ k) ∧ (m_way σ k < st → m_way σ k + σ 11 k ≤ st)) : cFst τ (w + 1) st = if m_nb σ bh (σ 17 0) = -1 then -1 else σ 10 (m_nb σ bh (σ 17 0)) := by
  have hm := mb_nm hB
  have way : ∀ k, m_way σ k = σ 15 k * 20 + σ 16 k := fun k => by unfold m_way; omega
  -- what is in a cell
  have cellk : ∀ z, 0 ≤ z → z < 160 → τ (w + 1) z = if m_inSlot σ (z / 20) (z % 20) = -1 then -1 else σ 10 (m_inSlot σ (z / 20) (z % 20)) := fun z a b => by
    have := hL.2 (z / 20) (z % 20) (by omega) (by omega) (by omega) (by omega)
    rw [show z / 20 * 20 + z % 20 = z by omega] at this
    exact this
  have cin : ∀ z k, 0 ≤ z → z < 160 → 0 ≤ k → k < σ 17 0 → m_way σ k ≤ z → z < m_way σ k + σ 11 k → τ (w + 1) z = σ 10 k := fun z k a b c d x y => by
    have hc := lk_cell hB hI hA c d
    rw [way] at x y
    have e := inSlot_at (s := z % 20) hB hN c d (R := z / 20) (by omega) ⟨by omega, by omega, by omega⟩
    rw [cellk z a b, e, if_neg (by omega)]
  have cfull : ∀ z, 0 ≤ z → z < 160 → τ (w + 1) z ≠ -1 → ∃ k, 0 ≤ k ∧ k < σ 17 0 ∧ m_way σ k ≤ z ∧ z < m_way σ k + σ 11 k := fun z a b c => by
    rcases inSlot_cases hB (z / 20) (z % 20) with h | ⟨h1, h2, h3, h4, h5⟩
    · rw [cellk z a b, if_pos h.1] at c; exact absurd rfl c
    · exact ⟨_, h1, h2, by rw [way, h3]; omega, by rw [way, h3]; omega⟩
  have nnum : ∀ k, 0 ≤ k → k < σ 17 0 → σ 10 k ≠ -1 := fun k a b => by
    have := (hB 10 k a (show k < (60 : Int) by omega)).1
    have h2 : (0 : Int) ≤ σ 10 k := this
    omega
  -- the least way behind bh
  have nbs : ∀ n, 0 ≤ n → n ≤ σ 17 0 → (m_nb σ bh n = -1 ∧ ∀ k, 0 ≤ k → k < n → ¬ bh < m_way σ k) ∨ (0 ≤ m_nb σ bh n ∧ m_nb σ bh n < n ∧ bh < m_way σ (m_nb σ bh n) ∧ ∀ k, 0 ≤ k → k < n → bh < m_way σ k → m_way σ (m_nb σ bh n) ≤ m_way σ k) := by
    intro n hn
    refine sm_ind (p := fun n => n ≤ σ 17 0 → (m_nb σ bh n = -1 ∧ ∀ k, 0 ≤ k → k < n → ¬ bh < m_way σ k) ∨ (0 ≤ m_nb σ bh n ∧ m_nb σ bh n < n ∧ bh < m_way σ (m_nb σ bh n) ∧ ∀ k, 0 ≤ k → k < n → bh < m_way σ k → m_way σ (m_nb σ bh n) ≤ m_way σ k)) n (fun _ => Or.inl ⟨rfl, fun k a b => by omega⟩) (fun k h0 _ hk hle => ?_) hn
    rw [m_nb_s _ _ h0]
    rcases hk (by omega) with ⟨a1, a2⟩ | ⟨a1, a2, a3, a4⟩
    · by_cases c : bh < m_way σ k
      · rw [if_pos ⟨c, Or.inl a1⟩]
        refine Or.inr ⟨h0, by omega, c, fun j b1 b2 b3 => ?_⟩
        by_cases z : j = k
        · rw [z]; exact Int.le_refl _
        · exact absurd b3 (a2 j b1 (by omega))
      · rw [if_neg (fun z => c z.1)]
        refine Or.inl ⟨a1, fun j b1 b2 => ?_⟩
        by_cases z : j = k
        · rw [z]; exact c
        · exact a2 j b1 (by omega)
    · by_cases c : bh < m_way σ k ∧ (m_nb σ bh k = -1 ∨ m_way σ k < m_way σ (m_nb σ bh k))
      · rw [if_pos c]
        refine Or.inr ⟨h0, by omega, c.1, fun j b1 b2 b3 => ?_⟩
        by_cases z : j = k
        · rw [z]; exact Int.le_refl _
        · have := a4 j b1 (by omega) b3
          rcases c.2 with q | q
          · omega
          · omega
      · rw [if_neg c]
        refine Or.inr ⟨a1, by omega, a3, fun j b1 b2 b3 => ?_⟩
        by_cases z : j = k
        · rw [z]
          rw [z] at b3
          have : ¬ (m_nb σ bh k = -1 ∨ m_way σ k < m_way σ (m_nb σ bh k)) := fun y => c ⟨b3, y⟩
          omega
        · exact a4 j b1 (by omega) b3
  have w160 : ∀ k, 0 ≤ k → k < σ 17 0 → 0 ≤ m_way σ k ∧ m_way σ k + σ 11 k ≤ 160 ∧ 1 ≤ σ 11 k := fun k a b => by
    have hc := lk_cell hB hI hA a b
    rw [way]; omega
  unfold cFst
  rcases nbs (σ 17 0) hm.1 (Int.le_refl _) with ⟨a1, a2⟩ | ⟨a1, a2, a3, a4⟩
  · rw [a1, if_pos rfl]
    have e : ff (fun j => decide (τ (w + 1) (st + j) ≠ -1)) (160 - st) = -1 := ff_none (fun j b1 b2 => by
      by_cases c : τ (w + 1) (st + j) = -1
      · rw [c]; rfl
      · obtain ⟨k, c1, c2, c3, c4⟩ := cfull (st + j) (by omega) (by omega) c
        have h1 := hb k c1 c2
        have h2 := a2 k c1 c2
        have h3 : m_way σ k < st := by
          have := h1.1
          by_cases y : st ≤ m_way σ k
          · exact absurd (this.mpr y) h2
          · omega
        have := h1.2 h3
        omega)
    rw [e, if_pos rfl]
  · rw [if_neg (show ¬ m_nb σ bh (σ 17 0) = -1 by omega)]
    have h1 := (hb _ a1 a2).1.mp a3
    have hw := w160 _ a1 a2
    have hfull : τ (w + 1) (m_way σ (m_nb σ bh (σ 17 0))) = σ 10 (m_nb σ bh (σ 17 0)) := cin _ _ (by omega) (by omega) a1 a2 (Int.le_refl _) (by omega)
    have e : ff (fun j => decide (τ (w + 1) (st + j) ≠ -1)) (160 - st) = m_way σ (m_nb σ bh (σ 17 0)) - st := by
      refine ff_at (by omega) (by omega) ?_ (fun j b1 b2 => ?_)
      · rw [show st + (m_way σ (m_nb σ bh (σ 17 0)) - st) = m_way σ (m_nb σ bh (σ 17 0)) by omega, hfull]
        exact decide_eq_true (nnum _ a1 a2)
      · by_cases c : τ (w + 1) (st + j) = -1
        · rw [c]; rfl
        · obtain ⟨k, c1, c2, c3, c4⟩ := cfull (st + j) (by omega) (by omega) c
          have h5 := hb k c1 c2
          by_cases y : st ≤ m_way σ k
          · have := a4 k c1 c2 (h5.1.mpr y)
            omega
          · have := h5.2 (by omega)
            omega
    rw [e, if_neg (by omega), show st + (m_way σ (m_nb σ bh (σ 17 0)) - st) = m_way σ (m_nb σ bh (σ 17 0)) by omega, hfull]
/-- behind a machine, and at the start -/
theorem next_at {σ : sT} (hB : MB σ) (hI : IW σ) (hA : AP σ) (hN : NO σ) {i : Int} (i0 : 0 ≤ i) (i1 : i < σ 17 0) : ∀ k, 0 ≤ k → k < σ 17 0 → (m_way σ i < m_way σ k ↔ m_way σ i + σ 11 i ≤ m_way σ k) ∧ (m_way σ k < m_way σ i + σ 11 i → m_way σ k + σ 11 k ≤ m_way σ i + σ 11 i) := by
  intro k a b
  have way : ∀ k, m_way σ k = σ 15 k * 20 + σ 16 k := fun k => by unfold m_way; omega
  have hi := lk_cell hB hI hA i0 i1
  have hk := lk_cell hB hI hA a b
  rw [way, way]
  by_cases e : k = i
  · subst e
    constructor
    · constructor <;> intro z <;> omega
    · intro z; omega
  · by_cases e2 : σ 15 i = σ 15 k
    · rcases hN i k i0 i1 a b (fun z => e z.symm) (by omega) e2 with q | q
      · rw [e2]
        constructor
        · constructor <;> intro z <;> omega
        · intro z; omega
      · rw [e2]
        constructor
        · constructor <;> intro z <;> omega
        · intro z; omega
    · constructor
      · constructor <;> intro z <;> omega
      · intro z; omega
theorem next_0 {σ : sT} (hB : MB σ) (hI : IW σ) (hA : AP σ) : ∀ k, 0 ≤ k → k < σ 17 0 → (-1 < m_way σ k ↔ 0 ≤ m_way σ k) ∧ (m_way σ k < 0 → m_way σ k + σ 11 k ≤ 0) := by
  intro k a b
  have hk := lk_cell hB hI hA a b
  have way : m_way σ k = σ 15 k * 20 + σ 16 k := by unfold m_way; omega
  rw [way]
  constructor
  · constructor <;> intro z <;> omega
  · intro z; omega
end LK3
