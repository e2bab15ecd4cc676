/-! ===== class and reference: states that show the same machines; one machine put ===== -/
def Ag (σ σ' : sT) : Prop := (∀ (f : Nat) (z : Int), 1 ≤ f → f ≤ 9 → σ' f z = σ f z) ∧ σ' 17 0 = σ 17 0 ∧ σ' 18 0 = σ 18 0 ∧ ∀ (f : Nat) (j : Int), 10 ≤ f → f ≤ 16 → 0 ≤ j → j < σ 17 0 → σ' f j = σ f j
section AG
variable {σ σ' : sT}
theorem Ag.we (h : Ag σ σ') (hB : MB σ) (r : Int) : m_weighs σ' r = m_weighs σ r := by
  have hm := mb_nm hB
  unfold m_weighs
  rw [h.2.1]
  exact sm_cong hm.1 (fun k a b => by unfold m_we; rw [h.2.2.2 15 k (by decide) (by decide) a b, h.2.2.2 13 k (by decide) (by decide) a b])
theorem Ag.hh (h : Ag σ σ') (hB : MB σ) (r : Int) : m_hts σ' r = m_hts σ r := by
  have hm := mb_nm hB
  unfold m_hts
  rw [h.2.1]
  exact sm_cong hm.1 (fun k a b => by unfold m_hh; rw [h.2.2.2 15 k (by decide) (by decide) a b, h.2.2.2 12 k (by decide) (by decide) a b])
theorem Ag.wo (h : Ag σ σ') (hB : MB σ) (r f : Int) : m_worst σ' r f = m_worst σ r f := by
  have hm := mb_nm hB
  unfold m_worst
  rw [h.2.1]
  exact sm_cong hm.1 (fun k a b => by unfold m_wo; rw [h.2.2.2 15 k (by decide) (by decide) a b, h.2.2.2 14 k (by decide) (by decide) a b, h.2.2.2 12 k (by decide) (by decide) a b])
theorem Ag.rw (h : Ag σ σ') (hB : MB σ) (row : Int) : m_rowWeighs σ' row = m_rowWeighs σ row := by
  have hn := mb_nr hB
  unfold m_rowWeighs
  rw [h.1 5 0 (by decide) (by decide)]
  exact sm_cong hn.1 (fun k a b => by unfold m_rw; rw [h.1 1 k (by decide) (by decide), h.we hB])
theorem Ag.rh (h : Ag σ σ') (hB : MB σ) (row : Int) : m_rowHeats σ' row = m_rowHeats σ row := by
  have hm := mb_nm hB
  unfold m_rowHeats
  rw [h.2.1]
  exact sm_cong hm.1 (fun k a b => by unfold m_rh; rw [h.2.2.2 15 k (by decide) (by decide) a b, h.2.2.2 12 k (by decide) (by decide) a b, h.1 1 _ (by decide) (by decide)])
theorem Ag.is (h : Ag σ σ') (hB : MB σ) (r s : Int) : m_inSlot σ' r s = m_inSlot σ r s := by
  have hm := mb_nm hB
  unfold m_inSlot
  rw [h.2.1]
  exact ff_cong hm.1 (fun k a b => by unfold m_ins; rw [h.2.2.2 15 k (by decide) (by decide) a b, h.2.2.2 16 k (by decide) (by decide) a b, h.2.2.2 11 k (by decide) (by decide) a b])
theorem Ag.be (h : Ag σ σ') (hB : MB σ) (r p w c : Int) : m_borne σ' r p w c = m_borne σ r p w c := by
  unfold m_borne m_bf
  rw [h.we hB, h.rw hB, h.rh hB, h.wo hB, h.wo hB, h.wo hB, h.wo hB, h.1 3 _ (by decide) (by decide), h.1 1 _ (by decide) (by decide), h.1 7 _ (by decide) (by decide), h.1 6 _ (by decide) (by decide), h.1 4 _ (by decide) (by decide), h.1 8 _ (by decide) (by decide), h.1 8 _ (by decide) (by decide)]
theorem Ag.si (h : Ag σ σ') (hB : MB σ) (r n p w c : Int) : m_slotIn σ' r n p w c = m_slotIn σ r n p w c := by
  have e : m_inSlot σ' = m_inSlot σ := by funext a b; exact h.is hB a b
  have e2 : (fun s => m_free σ' r s n) = (fun s => m_free σ r s n) := by
    funext s
    unfold m_free
    rw [e, h.1 2 _ (by decide) (by decide)]
  unfold m_slotIn
  rw [h.be hB, e2, h.1 2 _ (by decide) (by decide)]
theorem Ag.iw (h : Ag σ σ') (hI : IW σ) : IW σ' := by
  intro k a b
  rw [h.2.1] at b
  rw [h.2.2.2 15 k (by decide) (by decide) a b, h.2.2.2 16 k (by decide) (by decide) a b, h.2.2.2 11 k (by decide) (by decide) a b, h.1 5 _ (by decide) (by decide), h.1 2 _ (by decide) (by decide)]
  exact hI k a b
theorem Ag.no (h : Ag σ σ') (hN : NO σ) : NO σ' := by
  intro j k a b c d
  rw [h.2.1] at b d
  rw [h.2.2.2 15 k (by decide) (by decide) c d, h.2.2.2 16 k (by decide) (by decide) c d, h.2.2.2 11 k (by decide) (by decide) c d, h.2.2.2 15 j (by decide) (by decide) a b, h.2.2.2 16 j (by decide) (by decide) a b, h.2.2.2 11 j (by decide) (by decide) a b]
  exact hN j k a b c d
theorem Ag.ap (h : Ag σ σ') (hA : AP σ) : AP σ' := by
  intro k a b
  rw [h.2.1] at b
  rw [h.2.2.2 15 k (by decide) (by decide) a b]
  exact hA k a b
theorem Ag.ni (h : Ag σ σ') (hN : NI σ) : NI σ' := by
  refine ⟨fun j k a b c => ?_, fun k a b => ?_⟩
  · rw [h.2.1] at c
    rw [h.2.2.2 10 k (by decide) (by decide) (by omega) c, h.2.2.2 10 j (by decide) (by decide) a (by omega)]
    exact hN.1 j k a b c
  · rw [h.2.1] at b
    rw [h.2.2.2 10 k (by decide) (by decide) a b, h.2.2.1]
    exact hN.2 k a b
theorem Ag.ml (h : Ag σ σ') (hB : MB σ) (hL : ML σ) : ML σ' := by
  refine ⟨fun r a b => ?_, fun row a b => ?_, ?_, ?_⟩
  · rw [h.1 5 _ (by decide) (by decide)] at b
    rw [h.we hB, h.wo hB, h.wo hB, h.1 3 _ (by decide) (by decide), h.1 4 _ (by decide) (by decide)]
    exact hL.1 r a b
  · rw [h.rw hB, h.rh hB, h.1 7 _ (by decide) (by decide), h.1 6 _ (by decide) (by decide)]
    exact hL.2.1 row a b
  · rw [h.wo hB, h.1 8 _ (by decide) (by decide)]
    exact hL.2.2.1
  · rw [h.wo hB, h.1 8 _ (by decide) (by decide)]
    exact hL.2.2.2
theorem Ag.lr {τ : sT} {w : Nat} (h : Ag σ σ') (hB : MB σ) (hL : LR τ w σ) : LR τ w σ' := by
  refine ⟨fun k a b => ?_, fun k s a b c d => ?_⟩
  · rw [h.we hB, h.hh hB, h.wo hB, h.wo hB]; exact hL.1 k a b
  · rw [h.is hB, hL.2 k s a b c d]
    rcases inSlot_cases hB k s with z | z
    · rw [if_pos z.1, if_pos z.1]
    · rw [h.2.2.2 10 _ (by decide) (by decide) z.1 z.2.1]
theorem Ag.sr {r : Nat → Int → Option Nat} {τ : sT} (h : Ag σ σ') (hS : SRel r τ σ) : SRel r τ σ' := by
  obtain ⟨a, b, c, d⟩ := hS
  refine ⟨by rw [h.1 5 _ (by decide) (by decide)]; exact a, fun k x y => ?_, fun z x y => ?_, fun z x y => ?_⟩
  · rw [h.1 5 _ (by decide) (by decide)] at y
    rw [h.1 1 _ (by decide) (by decide), h.1 2 _ (by decide) (by decide), h.1 3 _ (by decide) (by decide), h.1 4 _ (by decide) (by decide)]
    exact b k x y
  · rw [h.1 6 _ (by decide) (by decide), h.1 7 _ (by decide) (by decide)]; exact c z x y
  · rw [h.1 8 _ (by decide) (by decide)]; exact d z x y
theorem Ag.pr {r : Nat → Int → Option Nat} {τ : sT} (h : Ag σ σ') (hP : PRel r τ σ) : PRel r τ σ' := by
  obtain ⟨a, b, c, d⟩ := hP
  refine ⟨by rw [h.2.1]; exact a, fun k x y => ?_, by rw [h.2.2.1]; exact c, fun z x y => ?_⟩
  · rw [h.2.1] at y
    rw [h.2.2.2 10 k (by decide) (by decide) x y, h.2.2.2 11 k (by decide) (by decide) x y, h.2.2.2 12 k (by decide) (by decide) x y, h.2.2.2 13 k (by decide) (by decide) x y, h.2.2.2 14 k (by decide) (by decide) x y]
    exact b k x y
  · rw [h.1 9 _ (by decide) (by decide)]; exact d z x y
theorem Ag.pc {r : Nat → Int → Option Nat} {τ : sT} (h : Ag σ σ') (hC : PCel r τ σ) : PCel r τ σ' := by
  intro k x y
  rw [h.2.1] at y
  rw [h.2.2.2 15 k (by decide) (by decide) x y, h.2.2.2 16 k (by decide) (by decide) x y]
  exact hC k x y
theorem Ag.iv (h : Ag σ σ') (hB' : MB σ') (hV : IV σ) : IV σ' := by
  obtain ⟨hB, hI, hA, hN, hNI, hML⟩ := hV
  exact ⟨hB', h.iw hI, h.ap hA, h.no hN, h.ni hNI, h.ml hB hML⟩
theorem Ag.rx {K : Nat → Nat} {r : Nat → Int → Option Nat} {cp : Nat → Nat} {b b' : Nat} {τ : sT} (h : Ag σ σ') (hB' : MB σ') (hR : RX K r cp b b' τ σ) : RX K r cp b b' τ σ' := by
  obtain ⟨hbb, hV, hI, hS, hP, hC, hL⟩ := hR
  exact ⟨hbb, hV, h.iv hB' hI, h.sr hS, h.pr hP, h.pc hC, h.lr hI.1 hL⟩
end AG
theorem borne_iff {σ : sT} {r p w c : Int} : m_borne σ r p w c = true ↔ (m_weighs σ r + w ≤ σ 3 r ∧ m_rowWeighs σ (σ 1 r) + w ≤ σ 7 (σ 1 r) ∧ m_rowHeats σ (σ 1 r) + p ≤ σ 6 (σ 1 r)) ∧ (m_worst σ r 0 + m_pw c 0 p ≤ σ 4 r ∧ m_worst σ (-1) 0 + m_pw c 0 p ≤ σ 8 0) ∧ (m_worst σ r 1 + m_pw c 1 p ≤ σ 4 r ∧ m_worst σ (-1) 1 + m_pw c 1 p ≤ σ 8 1) := by
  unfold m_borne m_bf
  simp only [Bool.and_eq_true, decide_eq_true_eq]
  constructor
  · rintro ⟨⟨⟨⟨a, b⟩, c⟩, d, e⟩, f, g⟩; exact ⟨⟨a, b, c⟩, ⟨d, e⟩, f, g⟩
  · rintro ⟨⟨a, b, c⟩, ⟨d, e⟩, f, g⟩; exact ⟨⟨⟨⟨a, b⟩, c⟩, d, e⟩, f, g⟩
/-- sums of racks that grow in one of them -/
theorem sums_add {σ σ' : sT} (hB : MB σ) (hB' : MB σ') (hr : RV σ) (hr' : RV σ') (e1 : ∀ z, σ' 1 z = σ 1 z) (e5 : σ' 5 0 = σ 5 0) {R w p q0 q1 : Int} (hR : 0 ≤ R ∧ R < σ 5 0) (hs : ∀ k, 0 ≤ k → k < 8 → m_weighs σ' k = m_weighs σ k + (if R = k then w else 0) ∧ m_hts σ' k = m_hts σ k + (if R = k then p else 0) ∧ m_worst σ' k 0 = m_worst σ k 0 + (if R = k then q0 else 0) ∧ m_worst σ' k 1 = m_worst σ k 1 + (if R = k then q1 else 0)) :
    (∀ row, m_rowWeighs σ' row = m_rowWeighs σ row + (if σ 1 R = row then w else 0)) ∧ (∀ row, m_rowHeats σ' row = m_rowHeats σ row + (if σ 1 R = row then p else 0)) ∧ m_worst σ' (-1) 0 = m_worst σ (-1) 0 + q0 ∧ m_worst σ' (-1) 1 = m_worst σ (-1) 1 + q1 := by
  have hn := mb_nr hB
  refine ⟨fun row => ?_, fun row => ?_, ?_, ?_⟩
  · unfold m_rowWeighs
    rw [e5, sm_cong (g := fun k => m_rw σ row k + (if k = R then (if σ 1 R = row then w else 0) else 0)) hn.1 (fun k a b => ?_), sm_add _ _ hn.1, sm_one _ _ hn.1, if_pos hR]
    unfold m_rw
    rw [e1, (hs k a (by omega)).1]
    by_cases z : k = R
    · subst z; rw [if_pos rfl, if_pos rfl]; split <;> omega
    · rw [if_neg z, if_neg (Ne.symm z)]; split <;> omega
  · rw [← sum_heats hB hr, ← sum_heats hB' hr', e5, sm_cong (g := fun k => (if σ 1 k = row then m_hts σ k else 0) + (if k = R then (if σ 1 R = row then p else 0) else 0)) hn.1 (fun k a b => ?_), sm_add _ _ hn.1, sm_one _ _ hn.1, if_pos hR]
    rw [e1, (hs k a (by omega)).2.1]
    by_cases z : k = R
    · subst z; rw [if_pos rfl, if_pos rfl]; split <;> omega
    · rw [if_neg z, if_neg (Ne.symm z)]; split <;> omega
  · rw [← sum_worst hB hr, ← sum_worst hB' hr', e5, sm_cong (g := fun k => m_worst σ k 0 + (if k = R then q0 else 0)) hn.1 (fun k a b => ?_), sm_add _ _ hn.1, sm_one _ _ hn.1, if_pos hR]
    rw [(hs k a (by omega)).2.2.1]
    by_cases z : k = R
    · subst z; rw [if_pos rfl]
    · rw [if_neg z, if_neg (Ne.symm z)]
  · rw [← sum_worst hB hr, ← sum_worst hB' hr', e5, sm_cong (g := fun k => m_worst σ k 1 + (if k = R then q1 else 0)) hn.1 (fun k a b => ?_), sm_add _ _ hn.1, sm_one _ _ hn.1, if_pos hR]
    rw [(hs k a (by omega)).2.2.2]
    by_cases z : k = R
    · subst z; rw [if_pos rfl]
    · rw [if_neg z, if_neg (Ne.symm z)]
theorem ml_add {σ σ' : sT} (hB : MB σ) (hB' : MB σ') (hr : RV σ) (hr' : RV σ') (hf : ∀ (f : Nat) (z : Int), 1 ≤ f → f ≤ 8 → σ' f z = σ f z) {R p w c : Int} (hR : 0 ≤ R ∧ R < σ 5 0) (hs : ∀ k, 0 ≤ k → k < 8 → m_weighs σ' k = m_weighs σ k + (if R = k then w else 0) ∧ m_hts σ' k = m_hts σ k + (if R = k then p else 0) ∧ m_worst σ' k 0 = m_worst σ k 0 + (if R = k then m_pw c 0 p else 0) ∧ m_worst σ' k 1 = m_worst σ k 1 + (if R = k then m_pw c 1 p else 0)) (hb : m_borne σ R p w c = true) (hL : ML σ) : ML σ' := by
  have hn := mb_nr hB
  obtain ⟨s1, s2, s3, s4⟩ := sums_add hB hB' hr hr' (fun z => hf 1 z (by decide) (by decide)) (hf 5 0 (by decide) (by decide)) hR hs
  obtain ⟨⟨b1, b2, b3⟩, ⟨b4, b5⟩, b6, b7⟩ := borne_iff.mp hb
  refine ⟨fun k a b => ?_, fun row a b => ?_, ?_, ?_⟩
  · rw [hf 5 0 (by decide) (by decide)] at b
    have h1 := hs k a (by omega)
    have h2 := hL.1 k a b
    rw [hf 3 k (by decide) (by decide), hf 4 k (by decide) (by decide), h1.1, h1.2.2.1, h1.2.2.2]
    by_cases z : R = k
    · subst z; rw [if_pos rfl, if_pos rfl, if_pos rfl]; exact ⟨b1, b4, b6⟩
    · rw [if_neg z, if_neg z, if_neg z]; omega
  · have h2 := hL.2.1 row a b
    rw [hf 7 row (by decide) (by decide), hf 6 row (by decide) (by decide), s1, s2]
    by_cases z : σ 1 R = row
    · subst z; rw [if_pos rfl, if_pos rfl]; exact ⟨b2, b3⟩
    · rw [if_neg z, if_neg z]; omega
  · rw [s3, hf 8 0 (by decide) (by decide)]; exact b5
  · rw [s4, hf 8 1 (by decide) (by decide)]; exact b7
theorem slot_facts {σ : sT} (hB : MB σ) {R n p w c S : Int} (hR : 0 ≤ R ∧ R < σ 5 0) (hn : 0 ≤ n) (hS : m_slotIn σ R n p w c = S) (hS1 : S ≠ -1) : m_borne σ R p w c = true ∧ 0 ≤ S ∧ S + n ≤ σ 2 R ∧ σ 2 R ≤ 20 ∧ ∀ s, S ≤ s → s < S + n → m_inSlot σ R s = -1 := by
  have hnr := mb_nr hB
  have hs := lk_slots hB hR.1 (by omega)
  unfold m_slotIn at hS
  by_cases hb : m_borne σ R p w c = true
  · rw [if_pos hb] at hS
    rcases ff_cases (fun s => m_free σ R s n) hs.1 with z | ⟨z0, z1, z2, z3⟩
    · rw [z.1] at hS; exact absurd hS.symm hS1
    · rw [hS] at z0 z1 z2
      rw [m_free_fr] at z2
      obtain ⟨a, b⟩ := (m_fr_iff hn).mp z2
      exact ⟨hb, z0, a, hs.2, fun s u v => of_decide_eq_true (b s u v)⟩
  · rw [if_neg hb] at hS; exact absurd hS.symm hS1
theorem m_at_mb {σ : sT} (hB : MB σ) {k R S : Int} (hR : 0 ≤ R ∧ R < 8) (hS : 0 ≤ S ∧ S < 20) : MB (m_at σ k R S) :=
  mb_su (mb_su hB (show (-1 : Int) ≤ R ∧ R ≤ (7 : Int) by omega)) (show (0 : Int) ≤ S ∧ S ≤ (19 : Int) by omega)
/-- a machine that was in no rack, where it fits -/
theorem put_all {σ : sT} (hB : MB σ) (hI : IW σ) (hN : NO σ) (hL : ML σ) {k R S : Int} (h0 : 0 ≤ k) (h1 : k < σ 17 0) (hu : σ 15 k = -1) (hs : 1 ≤ σ 11 k) (hR : 0 ≤ R ∧ R < σ 5 0) (hS : m_slotIn σ R (σ 11 k) (σ 12 k) (σ 13 k) (σ 14 k) = S) (hS1 : S ≠ -1) :
    MB (m_at σ k R S) ∧ IW (m_at σ k R S) ∧ NO (m_at σ k R S) ∧ ML (m_at σ k R S) := by
  have hnr := mb_nr hB
  obtain ⟨f1, f2, f3, f4, f5⟩ := slot_facts hB hR (by omega) hS hS1
  have hB' : MB (m_at σ k R S) := m_at_mb hB (by omega) (by omega)
  have hI' : IW (m_at σ k R S) := by
    intro j a b
    rw [m_at_n (f := 17) (by decide)] at b
    rw [m_at15, m_at16, m_at_n (f := 5) (by decide), m_at_n (f := 2) (by decide), m_at_n (f := 11) (by decide)]
    by_cases z : j = k
    · subst z; rw [iup_s, iup_s]; exact Or.inr ⟨hR.1, hR.2, f2, hs, f3⟩
    · rw [iup_n z, iup_n z]; exact hI j a b
  refine ⟨hB', hI', ?_, ?_⟩
  · have one : ∀ j, 0 ≤ j → j < σ 17 0 → j ≠ k → σ 15 j = R → σ 16 j + σ 11 j ≤ S ∨ S + σ 11 k ≤ σ 16 j := by
      intro j a b z e
      rcases hI j a b with q | ⟨q1, q2, q3, q4, q5⟩
      · omega
      · rcases Int.lt_or_le (σ 16 j) (S + σ 11 k) with y | y
        · rcases Int.lt_or_le S (σ 16 j + σ 11 j) with x | x
          · exfalso
            have := (inSlot_cases hB R (max S (σ 16 j))).resolve_right (fun u => by have := f5 (max S (σ 16 j)) (by omega) (by omega); omega)
            exact this.2 j a b ⟨e, by omega, by omega⟩
          · exact Or.inl x
        · exact Or.inr y
    intro i j a b c d ne hne he
    rw [m_at_n (f := 17) (by decide)] at b d
    rw [m_at15] at hne he
    rw [m_at16, m_at_n (f := 11) (by decide)]
    by_cases z : i = k
    · subst z
      have zj : j ≠ i := fun y => ne y.symm
      rw [iup_s, iup_n zj] at he
      rw [iup_s, iup_n zj]
      exact (one j c d zj he.symm).symm
    · by_cases y : j = k
      · subst y
        rw [iup_s, iup_n z] at he
        rw [iup_s, iup_n z]
        exact one i a b z he
      · rw [iup_n z, iup_n y] at he
        rw [iup_n z] at hne
        rw [iup_n z, iup_n y]
        exact hN i j a b c d ne hne he
  · exact ml_add hB hB' hI.rv hI'.rv (fun f z a b => by rw [m_at_n (by omega)]) hR (fun x a b => ⟨we_at h0 h1 hu a, hh_at h0 h1 hu a, wo_at h0 h1 hu a, wo_at h0 h1 hu a⟩) f1 hL
