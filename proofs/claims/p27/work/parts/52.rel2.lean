/-! ===== class and reference: where a machine fits, and how many ===== -/
theorem fr_ge (e : Int → Bool) {j s : Int} (hj : 0 ≤ j) (hs : 0 ≤ s) : j ≤ fr e s ↔ (j ≤ s ∧ ∀ i, s - j ≤ i → i < s → e i = true) := by
  refine sm_ind (p := fun s => ∀ j, 0 ≤ j → (j ≤ fr e s ↔ (j ≤ s ∧ ∀ i, s - j ≤ i → i < s → e i = true))) s ?_ (fun k h0 _ hk => ?_) hs j hj
  · intro j hj
    have e0 : fr e 0 = 0 := rfl
    rw [e0]
    constructor
    · intro h; exact ⟨h, fun i a b => by omega⟩
    · intro h; exact h.1
  · intro j hj
    rw [fr_s _ h0]
    by_cases c : e k = true
    · rw [if_pos c]
      by_cases z : j = 0
      · subst z
        have := fr_rng e h0
        exact ⟨fun _ => ⟨by omega, fun i a b => by omega⟩, fun _ => by omega⟩
      · have h1 := hk (j - 1) (by omega)
        constructor
        · intro h
          obtain ⟨a1, a2⟩ := h1.mp (by omega)
          refine ⟨by omega, fun i b1 b2 => ?_⟩
          by_cases q : i = k
          · rw [q]; exact c
          · exact a2 i (by omega) (by omega)
        · intro h
          have := h1.mpr ⟨by omega, fun i b1 b2 => h.2 i (by omega) (by omega)⟩
          omega
    · rw [if_neg c]
      constructor
      · intro h
        exact ⟨by omega, fun i a b => by omega⟩
      · intro h
        by_cases z : j ≤ 0
        · exact z
        · exact absurd (h.2 k (by omega) (by omega)) c
def m_fr (e : Int → Bool) (S n s : Int) : Bool := decide (s + n ≤ S) && al (fun j => e (s + j)) n
theorem m_fr_iff {e : Int → Bool} {S n s : Int} (hn : 0 ≤ n) : m_fr e S n s = true ↔ (s + n ≤ S ∧ ∀ i, s ≤ i → i < s + n → e i = true) := by
  unfold m_fr
  rw [Bool.and_eq_true, decide_eq_true_eq, al_iff hn]
  constructor
  · rintro ⟨a, b⟩
    refine ⟨a, fun i c d => ?_⟩
    have := b (i - s) (by omega) (by omega)
    rw [show s + (i - s) = i by omega] at this
    exact this
  · rintro ⟨a, b⟩
    exact ⟨a, fun j c d => b (s + j) (by omega) (by omega)⟩
theorem low_free (e : Int → Bool) {n S : Int} (hS : 0 ≤ S) (hn : 1 ≤ n) : low e n S = if ff (m_fr e S n) S = -1 then -1 else ff (m_fr e S n) S + n - 1 := by
  have back : ∀ j, 0 ≤ j → j < S → fr e (j + 1) = n → 0 ≤ j + 1 - n ∧ m_fr e S n (j + 1 - n) = true := by
    intro j h0 h1 h2
    obtain ⟨a, b⟩ := (fr_ge e (j := n) (s := j + 1) (by omega) (by omega)).mp (by omega)
    exact ⟨by omega, (m_fr_iff (by omega)).mpr ⟨by omega, fun i c d => b i c (by omega)⟩⟩
  rcases ff_cases (m_fr e S n) hS with h | h
  · rw [h.1, if_pos rfl]
    refine ff_none (fun j h0 h1 => decide_eq_false (fun z => ?_))
    obtain ⟨a, b⟩ := back j h0 h1 z
    have := h.2 _ a (by omega)
    rw [b] at this
    cases this
  · obtain ⟨h0, h1, h2, h3⟩ := h
    rw [if_neg (by omega)]
    obtain ⟨a, b⟩ := (m_fr_iff (by omega)).mp h2
    refine ff_at (by omega) (by omega) (decide_eq_true ?_) (fun j q0 q1 => decide_eq_false (fun z => ?_))
    · have l1 := (fr_ge e (j := n) (s := ff (m_fr e S n) S + n - 1 + 1) (by omega) (by omega)).mpr ⟨by omega, fun i c d => b i (by omega) (by omega)⟩
      have l2 : ¬ n + 1 ≤ fr e (ff (m_fr e S n) S + n - 1 + 1) := by
        intro z
        obtain ⟨c1, c2⟩ := (fr_ge e (j := n + 1) (by omega) (by omega)).mp z
        have := h3 (ff (m_fr e S n) S - 1) (by omega) (by omega)
        rw [(m_fr_iff (by omega)).mpr ⟨by omega, fun i d1 d2 => c2 i (by omega) (by omega)⟩] at this
        cases this
      omega
    · obtain ⟨c1, c2⟩ := back j q0 (by omega) z
      have := h3 (j + 1 - n) c1 (by omega)
      rw [c2] at this
      cases this
theorem low_cong {e e' : Int → Bool} {n S : Int} (hS : 0 ≤ S) (h : ∀ j, 0 ≤ j → j < S → e j = e' j) : low e n S = low e' n S := by
  have k : ∀ j, 0 ≤ j → j < S → decide (fr e (j + 1) = n) = decide (fr e' (j + 1) = n) := fun j h0 h1 => by
    rw [fr_cong (by omega) (fun i a b => h i a (by omega))]
  unfold low
  rcases ff_cases (fun s => decide (fr e (s + 1) = n)) hS with a | a
  · rw [a.1]
    exact (ff_none (fun j h0 h1 => by rw [← k j h0 h1]; exact a.2 j h0 h1)).symm
  · exact (ff_at a.1 a.2.1 (by rw [← k _ a.1 a.2.1]; exact a.2.2.1) (fun j h0 h1 => by rw [← k j h0 (by omega)]; exact a.2.2.2 j h0 h1)).symm
theorem m_free_fr (σ : sT) (k s n : Int) : m_free σ k s n = m_fr (m_fe σ k) (σ 2 k) n s := rfl
theorem am_wi {a q u : Int} (hu : 0 ≤ u) : cAM a q u = m_wi a q u := by
  unfold cAM m_wi
  by_cases h : u = 0
  · rw [if_pos (by omega), if_pos (Or.inl h)]
  · rw [if_neg (by omega)]
    have hd : a ≤ q / u ↔ a * u ≤ q := Int.le_ediv_iff_mul_le (by omega)
    by_cases c : a * u ≤ q
    · rw [if_pos (Or.inr c)]
      have := hd.mpr c
      omega
    · rw [if_neg (by omega)]
      have : ¬ a ≤ q / u := fun z => c (hd.mp z)
      omega
section LK2
variable {K : Nat → Nat} {r : Nat → Int → Option Nat} {cp : Nat → Nat} {τ σ : sT} {w : Nat}
theorem lk_slots (hB : MB σ) {k : Int} (h0 : 0 ≤ k) (h8 : k < 8) : 0 ≤ σ 2 k ∧ σ 2 k ≤ 20 := hB 2 k h0 (show k < (8 : Int) from h8)
theorem lk_low (hB : MB σ) (hS : SRel r τ σ) (hL : LR τ w σ) {k n : Int} (h0 : 0 ≤ k) (h1 : k < σ 5 0) (hn : 1 ≤ n) : cLow r τ (w + 1) k n = if ff (fun s => m_free σ k s n) (σ 2 k) = -1 then -1 else k * 20 + ff (fun s => m_free σ k s n) (σ 2 k) := by
  have hnr := mb_nr hB
  have hs := lk_slots hB h0 (by omega)
  unfold cLow
  rw [(hS.2.1 k h0 h1).2.1, low_cong (e' := m_fe σ k) hs.1 (fun j a b => lk_em hB hL h0 (by omega) a (by omega)), low_free _ hs.1 hn]
  have e : ff (m_fr (m_fe σ k) (σ 2 k) n) (σ 2 k) = ff (fun s => m_free σ k s n) (σ 2 k) := rfl
  rw [e]
  rcases ff_rng (fun s => m_free σ k s n) hs.1 with ⟨a, b, c⟩
  by_cases z : ff (fun s => m_free σ k s n) (σ 2 k) = -1
  · rw [if_pos z, if_pos rfl, if_pos z]
  · rw [if_neg z, if_neg z, if_neg (by omega)]; omega
theorem lk_fit (hB : MB σ) (hr : RV σ) (hS : SRel r τ σ) (hL : LR τ w σ) {k : Int} (h0 : 0 ≤ k) (h1 : k < σ 5 0) {m : Nat} (hm : Mb τ m) : cFit r τ w k m = if m_slotIn σ k (τ 31 m) (τ 32 m) (τ 33 m) (τ 34 m) = -1 then -1 else k * 20 + m_slotIn σ k (τ 31 m) (τ 32 m) (τ 33 m) (τ 34 m) := by
  unfold cFit m_slotIn
  rw [lk_be hB hr hS hL h0 h1]
  by_cases c : m_borne σ k (τ 32 m) (τ 33 m) (τ 34 m) = true
  · rw [if_pos c, if_pos c, lk_low hB hS hL h0 h1 hm.2.1.1]
  · rw [if_neg c, if_neg c, if_pos rfl]
def m_prA (σ : sT) (n p w c : Int) : Int := ff (fun r => decide (m_slotIn σ r n p w c ≠ -1)) (σ 5 0)
theorem ff_cong {p q : Int → Bool} {n : Int} (hn : 0 ≤ n) (h : ∀ j, 0 ≤ j → j < n → p j = q j) : ff p n = ff q n := by
  rcases ff_cases p hn with a | a
  · rw [a.1]
    exact (ff_none (fun j h0 h1 => by rw [← h j h0 h1]; exact a.2 j h0 h1)).symm
  · exact (ff_at a.1 a.2.1 (by rw [← h _ a.1 a.2.1]; exact a.2.2.1) (fun j h0 h1 => by rw [← h j h0 (by omega)]; exact a.2.2.2 j h0 h1)).symm
theorem lk_fitne (hB : MB σ) (hr : RV σ) (hS : SRel r τ σ) (hL : LR τ w σ) {k : Int} (h0 : 0 ≤ k) (h1 : k < σ 5 0) {m : Nat} (hm : Mb τ m) : cFit r τ w k m = -1 ↔ m_slotIn σ k (τ 31 m) (τ 32 m) (τ 33 m) (τ 34 m) = -1 := by
  have hnr := mb_nr hB
  have hg := m_slotIn_rng hB (r := k) ⟨h0, by omega⟩ (τ 31 m) (τ 32 m) (τ 33 m) (τ 34 m)
  rw [lk_fit hB hr hS hL h0 h1 hm]
  by_cases c : m_slotIn σ k (τ 31 m) (τ 32 m) (τ 33 m) (τ 34 m) = -1
  · rw [if_pos c]; exact ⟨fun _ => c, fun _ => rfl⟩
  · rw [if_neg c]; exact ⟨fun z => by omega, fun z => absurd z c⟩
theorem lk_fr (hB : MB σ) (hr : RV σ) (hS : SRel r τ σ) (hL : LR τ w σ) {m : Nat} (hm : Mb τ m) : cFR r τ w m = m_prA σ (τ 31 m) (τ 32 m) (τ 33 m) (τ 34 m) := by
  have hnr := mb_nr hB
  unfold cFR m_prA
  rw [hS.1]
  refine ff_cong hnr.1 (fun j h0 h1 => ?_)
  have := lk_fitne hB hr hS hL h0 h1 hm
  by_cases c : cFit r τ w j m = -1
  · exact (decide_eq_false (fun z => z c)).trans (decide_eq_false (fun z => z (this.mp c))).symm
  · have c2 : m_slotIn σ j (τ 31 m) (τ 32 m) (τ 33 m) (τ 34 m) ≠ -1 := fun z => c (this.mpr z)
    exact (decide_eq_true c).trans (decide_eq_true c2).symm
theorem m_prA_rng (hB : MB σ) (n p w c : Int) : m_prA σ n p w c = -1 ∨ (0 ≤ m_prA σ n p w c ∧ m_prA σ n p w c < σ 5 0 ∧ m_slotIn σ (m_prA σ n p w c) n p w c ≠ -1) := by
  have hnr := mb_nr hB
  rcases ff_cases (fun r => decide (m_slotIn σ r n p w c ≠ -1)) hnr.1 with a | a
  · exact Or.inl a.1
  · exact Or.inr ⟨a.1, a.2.1, of_decide_eq_true a.2.2.1⟩
theorem lk_ff (hB : MB σ) (hr : RV σ) (hS : SRel r τ σ) (hL : LR τ w σ) {m : Nat} (hm : Mb τ m) : cFF r τ w m = if m_prA σ (τ 31 m) (τ 32 m) (τ 33 m) (τ 34 m) = -1 then -1 else m_prA σ (τ 31 m) (τ 32 m) (τ 33 m) (τ 34 m) * 20 + m_slotIn σ (m_prA σ (τ 31 m) (τ 32 m) (τ 33 m) (τ 34 m)) (τ 31 m) (τ 32 m) (τ 33 m) (τ 34 m) := by
  unfold cFF
  rw [lk_fr hB hr hS hL hm]
  rcases m_prA_rng hB (τ 31 m) (τ 32 m) (τ 33 m) (τ 34 m) with c | ⟨c0, c1, c2⟩
  · rw [if_pos c, if_pos c]
  · rw [if_neg (by omega), if_neg (by omega), lk_fit hB hr hS hL c0 c1 hm, if_neg c2]
theorem lk_gap (hB : MB σ) (hS : SRel r τ σ) (hL : LR τ w σ) {k : Int} (h0 : 0 ≤ k) (h1 : k < σ 5 0) : gp (cEm τ (w + 1) k) (τ 41 (ad r 2 k)) = (m_gap σ k (σ 2 k)).1 := by
  have hnr := mb_nr hB
  have hs := lk_slots hB h0 (by omega)
  rw [(hS.2.1 k h0 h1).2.1, m_gap_eq σ k hs.1]
  exact gp_cong hs.1 (fun j a b => lk_em hB hL h0 (by omega) a (by omega))
theorem lk_run (hB : MB σ) (hS : SRel r τ σ) (hL : LR τ w σ) {k n : Int} (h0 : 0 ≤ k) (h1 : k < σ 5 0) : (rn (cEm τ (w + 1) k) n (τ 41 (ad r 2 k))).1 = (m_run σ k n (σ 2 k)).1 := by
  have hnr := mb_nr hB
  have hs := lk_slots hB h0 (by omega)
  rw [(hS.2.1 k h0 h1).2.1, m_run_eq σ k n hs.1, rn_cong hs.1 (fun j a b => lk_em hB hL h0 (by omega) a (by omega))]
  rfl
theorem am_pw {a q c f p : Int} (hp : 0 ≤ p) : cAM a q (m_pw c f p) = if cdd c f = true then m_wi a q p else a := by
  unfold m_pw
  by_cases h : cdd c f = true
  · rw [if_pos h, if_pos h, am_wi hp]
  · rw [if_neg h, if_neg h]
    unfold cAM
    rw [if_pos (by omega)]
theorem lk_cr (hB : MB σ) (hS : SRel r τ σ) (hL : LR τ w σ) {k : Int} (h0 : 0 ≤ k) (h1 : k < σ 5 0) {m : Nat} (hm : Mb τ m) : cCR r τ w k m = m_roomIn σ k (τ 31 m) (τ 32 m) (τ 33 m) (τ 34 m) := by
  have hnr := mb_nr hB
  have hk := hS.2.1 k h0 h1
  have hl := hL.1 k h0 (by omega)
  unfold cCR m_roomIn cC1 m_rf
  rw [am_pw hm.2.2.1.1, am_pw hm.2.2.1.1, am_wi hm.2.2.2.1.1, lk_run hB hS hL h0 h1, hk.2.2.1, hk.2.2.2, hl.1, hl.2.2.1, hl.2.2.2]
theorem lk_cw (hB : MB σ) (hr : RV σ) (hS : SRel r τ σ) (hL : LR τ w σ) {row : Int} (h0 : 0 ≤ row) (h4 : row < 4) {m : Nat} (hm : Mb τ m) : cCW r τ w row m = rc_row σ (τ 31 m) (τ 32 m) (τ 33 m) (τ 34 m) row := by
  have hnr := mb_nr hB
  have hz := hS.2.2.1 row h0 h4
  unfold cCW rc_row
  rw [am_wi hm.2.2.2.1.1, am_wi hm.2.2.1.1, hz.1, hz.2, lk_rw hB hS hL, lk_rh hB hr hS hL, hS.1]
  have e : sm (cCt r τ w row m) (σ 5 0) = sm (rc_t σ (τ 31 m) (τ 32 m) (τ 33 m) (τ 34 m) row) (σ 5 0) := by
    refine sm_cong hnr.1 (fun k q0 q1 => ?_)
    unfold cCt rc_t
    rw [(hS.2.1 k q0 q1).1, lk_cr hB hS hL q0 q1 hm]
  rw [e]
theorem lk_ca (hB : MB σ) (hr : RV σ) (hS : SRel r τ σ) (hL : LR τ w σ) {m : Nat} (hm : Mb τ m) : cCA r τ w m = rc_all σ (τ 31 m) (τ 32 m) (τ 33 m) (τ 34 m) := by
  unfold cCA rc_all rc_f
  rw [am_pw hm.2.2.1.1, am_pw hm.2.2.1.1, lk_w0 hB hr hS hL, lk_w1 hB hr hS hL, hS.2.2.2 0 (by decide) (by decide), hS.2.2.2 1 (by decide) (by decide), sm_cong (by decide) (fun row q0 q1 => lk_cw hB hr hS hL q0 q1 hm)]
theorem lk_ml (hB : MB σ) (hr : RV σ) (hS : SRel r τ σ) (hL : LR τ w σ) (h : ML σ) : cML r τ w ∧ cAll τ (w + 5) ≤ τ 22 0 ∧ cAll τ (w + 6) ≤ τ 22 1 := by
  have hnr := mb_nr hB
  refine ⟨⟨fun k h0 h1 => ?_, fun row h0 h1 => ?_⟩, ?_, ?_⟩
  · rw [hS.1] at h1
    have hk := hS.2.1 k h0 h1
    have hl := hL.1 k h0 (by omega)
    rw [hk.2.2.1, hk.2.2.2, hl.1, hl.2.2.1, hl.2.2.2]
    exact h.1 k h0 h1
  · rw [lk_rw hB hS hL, lk_rh hB hr hS hL, (hS.2.2.1 row h0 h1).1, (hS.2.2.1 row h0 h1).2]
    exact h.2.1 row h0 h1
  · rw [lk_w0 hB hr hS hL, hS.2.2.2 0 (by decide) (by decide)]; exact h.2.2.1
  · rw [lk_w1 hB hr hS hL, hS.2.2.2 1 (by decide) (by decide)]; exact h.2.2.2
end LK2
