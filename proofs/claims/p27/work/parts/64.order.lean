/-! ===== the order of packing ===== -/
theorem ahead_iff {σ : sT} {k e : Int} : m_ahead σ k e = true ↔ σ 11 e < σ 11 k ∨ (σ 11 k = σ 11 e ∧ (σ 12 e < σ 12 k ∨ (σ 12 k = σ 12 e ∧ σ 10 k < σ 10 e))) := by
  unfold m_ahead
  simp only [Bool.or_eq_true, Bool.and_eq_true, decide_eq_true_eq]
theorem cPA_iff {τ : sT} {m o : Nat} : cPA τ m o = true ↔ (τ 31 m = τ 31 o ∧ τ 32 o < τ 32 m) ∨ (τ 31 m ≠ τ 31 o ∧ τ 31 o < τ 31 m) := by
  unfold cPA
  by_cases h : τ 31 m = τ 31 o
  · rw [if_pos h, decide_eq_true_eq]
    exact ⟨fun z => Or.inl ⟨h, z⟩, fun z => z.elim (fun y => y.2) (fun y => absurd h y.1)⟩
  · rw [if_neg h, decide_eq_true_eq]
    exact ⟨fun z => Or.inr ⟨h, z⟩, fun z => z.elim (fun y => absurd y.1 h) (fun y => y.2)⟩
theorem posN_spec (τ : sT) (L : Int → Nat) (v : Nat) : ∀ p : Nat, (∀ j : Nat, posN τ L v p ≤ j → j < p → cPA τ v (L j) = true) ∧ (posN τ L v p = 0 ∨ cPA τ v (L ((posN τ L v p - 1 : Nat) : Int)) = false)
  | 0 => ⟨fun j _ h => by omega, Or.inl rfl⟩
  | p + 1 => by
    obtain ⟨a, b⟩ := posN_spec τ L v p
    by_cases c : cPA τ v (L p) = true
    · have e : posN τ L v (p + 1) = posN τ L v p := if_pos c
      rw [e]
      refine ⟨fun j h1 h2 => ?_, b⟩
      by_cases z : j = p
      · rw [z]; exact c
      · exact a j h1 (by omega)
    · have e : posN τ L v (p + 1) = p + 1 := if_neg c
      rw [e]
      refine ⟨fun j h1 h2 => by omega, Or.inr ?_⟩
      rw [Nat.add_sub_cancel]
      cases q : cPA τ v (L p) with
      | false => rfl
      | true => exact absurd q c
theorem pk_order {r : Nat → Int → Option Nat} {τ σ : sT} (hP : PRel r τ σ) (hNI : NI σ) : ∀ i : Nat, (i : Int) ≤ σ 17 0 → ∃ π : Int → Int, (∀ j : Int, 0 ≤ j → j < i → 0 ≤ π j ∧ π j < i ∧ pkL r τ i j = ad r 0 (π j)) ∧ (∀ a b : Int, 0 ≤ a → a < b → b < i → m_ahead σ (π a) (π b) = true) ∧ ∀ k : Int, 0 ≤ k → k < i → ∃ j : Int, 0 ≤ j ∧ j < i ∧ π j = k
  | 0, _ => ⟨fun _ => 0, fun j a b => by omega, fun a b x y z => by omega, fun k a b => by omega⟩
  | i + 1, hi => by
    obtain ⟨π, h1, h2, h3⟩ := pk_order hP hNI i (by omega)
    have hv := hP.2.1 (i : Int) (by omega) (by omega)
    obtain ⟨s1, s2⟩ := posN_spec τ (pkL r τ i) (ad r 0 i) i
    have hp := posN_le τ (pkL r τ i) (ad r 0 i) i
    have eL : pkL r τ (i + 1) = ins (pkL r τ i) (posN τ (pkL r τ i) (ad r 0 i) i) (ad r 0 i) := rfl
    rw [eL]
    generalize posN τ (pkL r τ i) (ad r 0 i) i = p at *
    have f1 : ∀ j : Int, (p : Int) ≤ j → j < i → m_ahead σ i (π j) = true := fun j x y => by
      have hj := h1 j (by omega) y
      have hw := hP.2.1 (π j) hj.1 (by omega)
      have := s1 j.toNat (by omega) (by omega)
      rw [show ((j.toNat : Nat) : Int) = j by omega, hj.2.2, cPA_iff] at this
      rw [ahead_iff]
      omega
    have f2 : ∀ j : Int, 0 ≤ j → j < p → m_ahead σ (π j) i = true := fun j x y => by
      have hq := h1 (((p - 1 : Nat) : Int)) (by omega) (by omega)
      have hw := hP.2.1 (π ((p - 1 : Nat) : Int)) hq.1 (by omega)
      have hn := hNI.1 (π ((p - 1 : Nat) : Int)) i hq.1 hq.2.1 (by omega)
      have hc := s2.resolve_left (by omega)
      have hc2 : ¬ cPA τ (ad r 0 i) (pkL r τ i ((p - 1 : Nat) : Int)) = true := by rw [hc]; exact Bool.false_ne_true
      rw [hq.2.2, cPA_iff] at hc2
      have k1 : m_ahead σ (π ((p - 1 : Nat) : Int)) i = true := by rw [ahead_iff]; omega
      by_cases z : j = ((p - 1 : Nat) : Int)
      · rw [z]; exact k1
      · have k2 := h2 j ((p - 1 : Nat) : Int) x (by omega) (by omega)
        rw [ahead_iff] at k1 k2 ⊢
        omega
    obtain ⟨π', hπ⟩ : ∃ π' : Int → Int, ∀ j, π' j = if j < p then π j else if j = p then (i : Int) else π (j - 1) := ⟨_, fun _ => rfl⟩
    refine ⟨π', fun j a b => ?_, fun a b x y z => ?_, fun k a b => ?_⟩
    · rw [hπ j]
      unfold ins
      by_cases c1 : j < p
      · have := h1 j a (by omega)
        rw [if_pos c1, if_pos c1]; exact ⟨this.1, by omega, this.2.2⟩
      · rw [if_neg c1, if_neg c1]
        by_cases c2 : j = p
        · rw [if_pos c2, if_pos c2]; exact ⟨by omega, by omega, rfl⟩
        · rw [if_neg c2, if_neg c2]
          have := h1 (j - 1) (by omega) (by omega)
          exact ⟨this.1, by omega, this.2.2⟩
    · rw [hπ a, hπ b]
      by_cases a1 : a < p
      · rw [if_pos a1]
        by_cases b1 : b < p
        · rw [if_pos b1]; exact h2 a b x y (by omega)
        · rw [if_neg b1]
          by_cases b2 : b = p
          · rw [if_pos b2]; exact f2 a x a1
          · rw [if_neg b2]; exact h2 a (b - 1) x (by omega) (by omega)
      · rw [if_neg a1, if_neg (show ¬ b < p by omega), if_neg (show ¬ b = p by omega)]
        by_cases a2 : a = p
        · rw [if_pos a2]; exact f1 (b - 1) (by omega) (by omega)
        · rw [if_neg a2]; exact h2 (a - 1) (b - 1) (by omega) (by omega) (by omega)
    · by_cases c : k = i
      · exact ⟨p, by omega, by omega, by rw [hπ, if_neg (by omega), if_pos rfl, c]⟩
      · obtain ⟨j, j0, j1, j2⟩ := h3 k a (by omega)
        by_cases c1 : j < p
        · exact ⟨j, j0, by omega, by rw [hπ, if_pos c1]; exact j2⟩
        · exact ⟨j + 1, by omega, by omega, by rw [hπ, if_neg (by omega), if_neg (by omega), show j + 1 - 1 = j by omega]; exact j2⟩
theorem best_spec {S : sT} {n : Int} (hd : ∀ j k : Int, 0 ≤ j → j < k → k < n → S 10 j < S 10 k) {m : Int} (h0 : 0 ≤ m) (h1 : m ≤ n) : (m_best S m = -1 ∧ ∀ k, 0 ≤ k → k < m → S 15 k ≠ -1) ∨ (0 ≤ m_best S m ∧ m_best S m < m ∧ S 15 (m_best S m) = -1 ∧ ∀ e, 0 ≤ e → e < m → S 15 e = -1 → e ≠ m_best S m → m_ahead S (m_best S m) e = true) := by
  refine sm_ind (p := fun m => m ≤ n → (m_best S m = -1 ∧ ∀ k, 0 ≤ k → k < m → S 15 k ≠ -1) ∨ (0 ≤ m_best S m ∧ m_best S m < m ∧ S 15 (m_best S m) = -1 ∧ ∀ e, 0 ≤ e → e < m → S 15 e = -1 → e ≠ m_best S m → m_ahead S (m_best S m) e = true)) m (fun _ => Or.inl ⟨rfl, fun k a b => by omega⟩) (fun k a _ ih hle => ?_) h0 h1
  rw [m_best_s S a]
  rcases ih (by omega) with ⟨b1, b2⟩ | ⟨b1, b2, b3, b4⟩
  · by_cases c : S 15 k = -1
    · rw [if_pos ⟨c, Or.inl b1⟩]
      refine Or.inr ⟨a, by omega, c, fun e x y z ne => absurd z (b2 e x (by omega))⟩
    · rw [if_neg (fun z => c z.1)]
      refine Or.inl ⟨b1, fun e x y => ?_⟩
      by_cases z : e = k
      · rw [z]; exact c
      · exact b2 e x (by omega)
  · by_cases c : S 15 k = -1 ∧ (m_best S k = -1 ∨ m_ahead S k (m_best S k) = true)
    · rw [if_pos c]
      have ck := c.2.resolve_left (by omega)
      refine Or.inr ⟨a, by omega, c.1, fun e x y z ne => ?_⟩
      by_cases w : e = m_best S k
      · rw [w]; exact ck
      · have := b4 e x (by omega) z w
        rw [ahead_iff] at ck this ⊢
        omega
    · rw [if_neg c]
      refine Or.inr ⟨b1, by omega, b3, fun e x y z ne => ?_⟩
      by_cases w : e = k
      · subst w
        have hn : ¬ m_ahead S e (m_best S e) = true := fun y => c ⟨z, Or.inr y⟩
        have hd9 := hd (m_best S e) e b1 b2 (by omega)
        rw [ahead_iff] at hn ⊢
        omega
      · exact b4 e x (by omega) z ne
theorem nx_at_k {S : sT} (hd : ∀ j k : Int, 0 ≤ j → j < k → k < S 17 0 → S 10 j < S 10 k) {k : Int} (h0 : 0 ≤ k) (h1 : k < S 17 0) (hu : S 15 k = -1) (h : ∀ e, 0 ≤ e → e < S 17 0 → S 15 e = -1 → e ≠ k → m_ahead S k e = true) : m_nx S = k := by
  unfold m_nx
  rcases best_spec hd (m := S 17 0) (by omega) (Int.le_refl _) with ⟨a, b⟩ | ⟨a, b, c, d⟩
  · exact absurd hu (b k h0 h1)
  · by_cases z : m_best S (S 17 0) = k
    · exact z
    · have k1 := h _ a b c z
      have k2 := d k h0 h1 hu (fun y => z y.symm)
      rw [ahead_iff] at k1 k2
      omega
theorem nx_none {S : sT} (hd : ∀ j k : Int, 0 ≤ j → j < k → k < S 17 0 → S 10 j < S 10 k) (h0 : 0 ≤ S 17 0) (h : ∀ e, 0 ≤ e → e < S 17 0 → S 15 e ≠ -1) : m_nx S = -1 := by
  unfold m_nx
  rcases best_spec hd (m := S 17 0) h0 (Int.le_refl _) with ⟨a, b⟩ | ⟨a, b, c, d⟩
  · exact a
  · exact absurd c (h _ a b)
