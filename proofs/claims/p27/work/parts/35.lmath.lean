/-! ===== the layouts: ranges ===== -/
def cML (r : Nat → Int → Option Nat) (τ : sT) (w : Nat) : Prop := (∀ k : Int, 0 ≤ k → k < τ 55 0 → τ (w + 2) k ≤ τ 42 (ad r 2 k) ∧ τ (w + 5) k ≤ τ 43 (ad r 2 k) ∧ τ (w + 6) k ≤ τ 43 (ad r 2 k)) ∧ ∀ row : Int, 0 ≤ row → row < 4 → cSum r τ (w + 2) row ≤ τ 21 row ∧ cSum r τ (w + 3) row ≤ τ 20 row
theorem low_rng (e : Int → Bool) {n S : Int} (hS : 0 ≤ S) (hn : 1 ≤ n) : low e n S = -1 ∨ (n - 1 ≤ low e n S ∧ low e n S < S) := by
  rcases ff_cases (fun s => decide (fr e (s + 1) = n)) hS with h | h
  · exact Or.inl h.1
  · refine Or.inr ⟨?_, h.2.1⟩
    have h1 := of_decide_eq_true h.2.2.1
    have h2 := fr_rng e (s := low e n S + 1) (by have := h.1; unfold low; omega)
    have h3 : fr e (low e n S + 1) = n := h1
    omega
theorem cFit_rng {K : Nat → Nat} {r : Nat → Int → Option Nat} {cp : Nat → Nat} {τ : sT} {w : Nat} {k : Int} {m : Nat} (hV : CV K r cp τ) (h0 : 0 ≤ k) (h1 : k < τ 55 0) (hm : K m = 1) : cFit r τ w k m = -1 ∨ (k * 20 ≤ cFit r τ w k m ∧ cFit r τ w k m + τ 31 m ≤ k * 20 + τ 41 (ad r 2 k) ∧ cFit r τ w k m < 160) := by
  have hmb := hV.1 m hm
  have hr := hV.2.1 _ (hV.2.2.2.2.1.2.2.2.2 k h0 h1).2
  have h8 := hV.2.2.2.2.1.2.2.2.1
  unfold cFit
  split
  · unfold cLow
    rcases low_rng (cEm τ (w + 1) k) (n := τ 31 m) (S := τ 41 (ad r 2 k)) (by omega) (by omega) with h | h
    · rw [if_pos h]; exact Or.inl rfl
    · rw [if_neg (by omega)]; omega
  · exact Or.inl rfl
theorem cFF_rng {K : Nat → Nat} {r : Nat → Int → Option Nat} {cp : Nat → Nat} {τ : sT} {w : Nat} {m : Nat} (hV : CV K r cp τ) (hm : K m = 1) : cFF r τ w m = -1 ∨ (0 ≤ cFF r τ w m ∧ cFF r τ w m + τ 31 m ≤ 160 ∧ 0 ≤ cFR r τ w m ∧ cFR r τ w m < τ 55 0 ∧ cFR r τ w m * 20 ≤ cFF r τ w m ∧ cFF r τ w m + τ 31 m ≤ cFR r τ w m * 20 + τ 41 (ad r 2 (cFR r τ w m))) := by
  have hmb := hV.1 m hm
  have h8 := hV.2.2.2.2.1.2.2.2.1
  have h9 := hV.2.2.2.2.1.1
  unfold cFF
  rcases ff_cases (fun k => decide (cFit r τ w k m ≠ -1)) h9 with h | h
  · rw [show cFR r τ w m = -1 from h.1]; exact Or.inl rfl
  · have h1 : 0 ≤ cFR r τ w m := h.1
    have h2 : cFR r τ w m < τ 55 0 := h.2.1
    have h3 : cFit r τ w (cFR r τ w m) m ≠ -1 := of_decide_eq_true h.2.2.1
    have hr := hV.2.1 _ (hV.2.2.2.2.1.2.2.2.2 _ h1 h2).2
    rw [if_neg (by omega)]
    rcases cFit_rng (w := w) hV h1 h2 hm with h4 | h4
    · exact absurd h4 h3
    · omega
theorem cCR_rng {K : Nat → Nat} {r : Nat → Int → Option Nat} {cp : Nat → Nat} {τ : sT} {w : Nat} {k : Int} {m : Nat} (hV : CV K r cp τ) (hML : cML r τ w) (hm : K m = 1) (h0 : 0 ≤ k) (h1 : k < τ 55 0) : 0 ≤ cCR r τ w k m ∧ cCR r τ w k m ≤ 20 := by
  have hr := hV.2.1 _ (hV.2.2.2.2.1.2.2.2.2 k h0 h1).2
  have hl := hML.1 k h0 h1
  have hrn := rn_rng (cEm τ (w + 1) k) (τ 31 m) (s := τ 41 (ad r 2 k)) (by omega)
  have a1 : 0 ≤ cC1 r τ w k m ∧ cC1 r τ w k m ≤ _ := cAM_rng (q := τ 42 (ad r 2 k) - τ (w + 2) k) (u := τ 33 m) hrn.1 (by omega)
  have a2 := cAM_rng (a := cC1 r τ w k m) (q := τ 43 (ad r 2 k) - τ (w + 5) k) (u := m_pw (τ 34 m) 0 (τ 32 m)) a1.1 (by omega)
  have a3 := cAM_rng (q := τ 43 (ad r 2 k) - τ (w + 6) k) (u := m_pw (τ 34 m) 1 (τ 32 m)) a2.1 (by omega)
  unfold cCR
  omega
theorem cCt_rng {K : Nat → Nat} {r : Nat → Int → Option Nat} {cp : Nat → Nat} {τ : sT} {w : Nat} {m : Nat} {row k : Int} (hV : CV K r cp τ) (hW : Wb τ w) (hML : cML r τ w) (hm : K m = 1) (h0 : 0 ≤ k) (h1 : k ≤ τ 55 0) : 0 ≤ sm (cCt r τ w row m) k ∧ sm (cCt r τ w row m) k ≤ 160 := by
  have h8 := hV.2.2.2.2.1.2.2.2.1
  have := sm_le (f := cCt r τ w row m) (a := 0) (b := 20) h0 (fun j q0 q1 => by have := cCR_rng (w := w) hV hML hm q0 (by omega); unfold cCt; split <;> omega)
  omega
