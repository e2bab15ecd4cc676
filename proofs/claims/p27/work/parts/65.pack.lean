/-! ===== class and reference together: pack ===== -/
theorem cClA_n {τ : sT} {w f : Nat} (h : f ≠ w + 1 ∧ f ≠ w + 2 ∧ f ≠ w + 3 ∧ f ≠ w + 5 ∧ f ≠ w + 6) : cClA τ w f = τ f := by
  unfold cClA
  rw [sf_n h.2.2.2.2, sf_n h.2.2.2.1, sf_n h.2.2.1, sf_n h.2.1, sf_n h.1]
theorem pkS_n {r : Nat → Int → Option Nat} {τ : sT} {w f : Nat} (h : f ≠ w + 1 ∧ f ≠ w + 2 ∧ f ≠ w + 3 ∧ f ≠ w + 5 ∧ f ≠ w + 6) (h36 : f ≠ 36) : ∀ i, pkS r τ w i f = τ f
  | 0 => cClA_n h
  | i + 1 => by
    show cPut _ w _ _ f = _
    rw [cPut_n h, su_n h36, pkS_n h h36 i]
/-- behind i machines packed -/
def PkI (r : Nat → Int → Option Nat) (τ σ : sT) (w : Nat) (π : Int → Int) (i : Nat) (T S : sT) : Prop :=
  MB S ∧ IW S ∧ NO S ∧ ML S ∧ LR T w S ∧ (∀ (f : Nat) (z : Int), f ≠ 0 → f ≠ 15 → f ≠ 16 → f ≠ 19 → f ≠ 20 → S f z = σ f z) ∧ (∀ k : Int, 0 ≤ k → k < σ 17 0 → S 19 k = σ 15 k ∧ S 20 k = σ 16 k) ∧ (∀ j : Int, 0 ≤ j → j < i → S 15 (π j) ≠ -1 ∧ T 36 (ad r 0 (π j)) = S 15 (π j) * 20 + S 16 (π j)) ∧ (∀ j : Int, (i : Int) ≤ j → j < σ 17 0 → S 15 (π j) = -1) ∧ ∀ f, cfix f = true → f ≠ 36 → T f = τ f
/-- the order's places: one for each machine -/
def PkO (σ : sT) (π : Int → Int) : Prop := (∀ j : Int, 0 ≤ j → j < σ 17 0 → 0 ≤ π j ∧ π j < σ 17 0) ∧ (∀ a b : Int, 0 ≤ a → a < b → b < σ 17 0 → m_ahead σ (π a) (π b) = true) ∧ ∀ k : Int, 0 ≤ k → k < σ 17 0 → ∃ j : Int, 0 ≤ j ∧ j < σ 17 0 ∧ π j = k
theorem PkO.inj {σ : sT} {π : Int → Int} (h : PkO σ π) {a b : Int} (a0 : 0 ≤ a) (a1 : a < σ 17 0) (b0 : 0 ≤ b) (b1 : b < σ 17 0) (ne : a ≠ b) : π a ≠ π b := by
  intro z
  rcases Int.lt_or_gt_of_ne ne with y | y
  · have := h.2.1 a b a0 y b1
    rw [z, ahead_iff] at this
    omega
  · have := h.2.1 b a b0 y a1
    rw [z, ahead_iff] at this
    omega
theorem pk_init {r : Nat → Int → Option Nat} {τ σ : sT} {w : Nat} {π : Int → Int} (hw : w = 5 ∨ w = 12) (hB : MB σ) (hO : PkO σ π) : PkI r τ σ w π 0 (cClA τ w) (m_p1 (su σ 0 0 0) (σ 17 0)) := by
  have hm := mb_nm hB
  have hn := mb_nr hB
  have e15 : ∀ k : Int, 0 ≤ k → k < σ 17 0 → m_p1 (su σ 0 0 0) (σ 17 0) 15 k = -1 := fun k a b => by
    show (if 0 ≤ k ∧ k < σ 17 0 then (-1 : Int) else _) = -1
    rw [if_pos ⟨a, b⟩]
  have e19 : ∀ k : Int, 0 ≤ k → k < σ 17 0 → m_p1 (su σ 0 0 0) (σ 17 0) 19 k = σ 15 k := fun k a b => by
    show (if 0 ≤ k ∧ k < σ 17 0 then σ 15 k else _) = _
    rw [if_pos ⟨a, b⟩]
  have e20 : ∀ k : Int, 0 ≤ k → k < σ 17 0 → m_p1 (su σ 0 0 0) (σ 17 0) 20 k = σ 16 k := fun k a b => by
    show (if 0 ≤ k ∧ k < σ 17 0 then σ 16 k else _) = _
    rw [if_pos ⟨a, b⟩]
  have eo : ∀ (f : Nat) (z : Int), f ≠ 0 → f ≠ 15 → f ≠ 19 → f ≠ 20 → m_p1 (su σ 0 0 0) (σ 17 0) f z = σ f z := fun f z a b c d => by
    unfold m_p1
    rw [if_neg b, if_neg c, if_neg d, su_n a]
  have hB' : MB (m_p1 (su σ 0 0 0) (σ 17 0)) := mb_p1 (mb_su hB (show (0 : Int) ≤ 0 ∧ (0 : Int) ≤ (3 : Int) by decide)) _
  have e17 : m_p1 (su σ 0 0 0) (σ 17 0) 17 0 = σ 17 0 := eo 17 0 (by decide) (by decide) (by decide) (by decide)
  have e5 : m_p1 (su σ 0 0 0) (σ 17 0) 5 0 = σ 5 0 := eo 5 0 (by decide) (by decide) (by decide) (by decide)
  generalize m_p1 (su σ 0 0 0) (σ 17 0) = S at *
  have kw : ∀ k : Int, 0 ≤ k → m_weighs S k = 0 := fun k a => by
    unfold m_weighs
    rw [e17, sm_cong (g := fun _ => 0) hm.1 (fun j x y => by unfold m_we; rw [e15 j x y, if_neg (by omega)]), sm_zero hm.1]
  have kh : ∀ k : Int, 0 ≤ k → m_hts S k = 0 := fun k a => by
    unfold m_hts
    rw [e17, sm_cong (g := fun _ => 0) hm.1 (fun j x y => by unfold m_hh; rw [e15 j x y, if_neg (by omega)]), sm_zero hm.1]
  have ko : ∀ k f : Int, m_worst S k f = 0 := fun k f => by
    unfold m_worst
    rw [e17, sm_cong (g := fun _ => 0) hm.1 (fun j x y => by unfold m_wo; rw [e15 j x y, if_neg (fun z => z.1 rfl)]), sm_zero hm.1]
  have krw : ∀ row : Int, m_rowWeighs S row = 0 := fun row => by
    unfold m_rowWeighs
    rw [e5, sm_cong (g := fun _ => 0) hn.1 (fun j x y => by unfold m_rw; rw [kw j x]; split <;> rfl), sm_zero hn.1]
  have krh : ∀ row : Int, m_rowHeats S row = 0 := fun row => by
    unfold m_rowHeats
    rw [e17, sm_cong (g := fun _ => 0) hm.1 (fun j x y => by unfold m_rh; rw [e15 j x y, if_neg (fun z => z.1 rfl)]), sm_zero hm.1]
  refine ⟨hB', fun k a b => ?_, fun j k a b c d ne hne => ?_, ⟨fun k a b => ?_, fun row a b => ?_, ?_, ?_⟩, ⟨fun k a b => ?_, fun k s a b c d => ?_⟩, fun f z a b _ c d => eo f z a b c d, fun k a b => ⟨e19 k a b, e20 k a b⟩, fun j a b => by omega, fun j a b => ?_, fun f hf _ => cClA_n (fix_n hw hf)⟩
  · rw [e17] at b; exact Or.inl (e15 k a b)
  · rw [e17] at b; exact absurd (e15 j a b) hne
  · rw [e5] at b
    have h3 : (0 : Int) ≤ S 3 k := (hB' 3 k a (show k < (8 : Int) by omega)).1
    have h4 : (0 : Int) ≤ S 4 k := (hB' 4 k a (show k < (8 : Int) by omega)).1
    rw [kw k a, ko, ko]; omega
  · have h6 : (0 : Int) ≤ S 6 row := (hB' 6 row a (show row < (4 : Int) from b)).1
    have h7 : (0 : Int) ≤ S 7 row := (hB' 7 row a (show row < (4 : Int) from b)).1
    rw [krw, krh]; omega
  · have h8 : (0 : Int) ≤ S 8 0 := (hB' 8 0 (by decide) (by decide)).1
    rw [ko]; exact h8
  · have h8 : (0 : Int) ≤ S 8 1 := (hB' 8 1 (by decide) (by decide)).1
    rw [ko]; exact h8
  · rw [kw k a, kh k a, ko, ko]
    unfold cClA
    rw [sf_n (f' := w + 2) (by omega), sf_n (f' := w + 2) (by omega), sf_n (f' := w + 2) (by omega), sf_s, sf_n (f' := w + 3) (by omega), sf_n (f' := w + 3) (by omega), sf_s, sf_n (f' := w + 5) (by omega), sf_s, sf_s, cFil_rng a b, cFil_rng a b, cFil_rng a b, cFil_rng a b]
    exact ⟨rfl, rfl, rfl, rfl⟩
  · have hi : m_inSlot S k s = -1 := by
      rcases inSlot_cases hB' k s with z | ⟨z0, z1, z2, z3⟩
      · exact z.1
      · rw [e17] at z1
        rw [e15 _ z0 z1] at z2
        omega
    rw [hi, if_pos rfl]
    unfold cClA
    rw [sf_n (f' := w + 1) (by omega), sf_n (f' := w + 1) (by omega), sf_n (f' := w + 1) (by omega), sf_n (f' := w + 1) (by omega), sf_s, cFil_rng (by omega) (by omega)]
  · have := hO.1 j (by omega) b
    exact e15 _ this.1 this.2
theorem pk_step {K : Nat → Nat} {r : Nat → Int → Option Nat} {cp : Nat → Nat} {τ σ T S : sT} {w i : Nat} {π : Int → Int} (hw : w = 5 ∨ w = 12) (hV : CV K r cp T) (hB : MB σ) (hS : SRel r τ σ) (hP : PRel r τ σ) (hNI : NI σ) (hO : PkO σ π) (hI : PkI r τ σ w π i T S) (hi : (i : Int) < σ 17 0) :
    m_nx S = π i ∧ (cFF r T w (ad r 0 (π i)) = -1 ↔ m_pr S (π i) = -1) ∧ (cFF r T w (ad r 0 (π i)) ≠ -1 → PkI r τ σ w π (i + 1) (cPut (su T 36 (ad r 0 (π i)) (cFF r T w (ad r 0 (π i)))) w (ad r 0 (π i)) (cFF r T w (ad r 0 (π i)))) (m_put S (π i))) := by
  obtain ⟨sB, sI, sN, sM, sL, sF, s1920, sp, su_, tF⟩ := hI
  have hm := mb_nm hB
  have hn := mb_nr hB
  have e17 : S 17 0 = σ 17 0 := sF 17 0 (by decide) (by decide) (by decide) (by decide) (by decide)
  have e5 : S 5 0 = σ 5 0 := sF 5 0 (by decide) (by decide) (by decide) (by decide) (by decide)
  have hπ := hO.1 i (by omega) hi
  have hd : ∀ j k : Int, 0 ≤ j → j < k → k < S 17 0 → S 10 j < S 10 k := fun j k a b c => by
    rw [sF 10 j (by decide) (by decide) (by decide) (by decide) (by decide), sF 10 k (by decide) (by decide) (by decide) (by decide) (by decide)]
    exact hNI.1 j k a b (by rw [← e17]; exact c)
  have hu := su_ i (Int.le_refl _) hi
  have hnx : m_nx S = π i := by
    refine nx_at_k hd hπ.1 (by rw [e17]; exact hπ.2) hu (fun e a b c ne => ?_)
    rw [e17] at b
    obtain ⟨j, j0, j1, j2⟩ := hO.2.2 e a b
    have hji : (i : Int) < j := by
      rcases Int.lt_or_le j i with z | z
      · have := (sp j j0 z).1
        rw [j2] at this
        exact absurd c this
      · have : j ≠ i := fun y => ne (by rw [← j2, y])
        omega
    have h9 := hO.2.1 i j (by omega) hji j1
    rw [j2] at h9
    rw [ahead_iff] at h9 ⊢
    rw [sF 11 _ (by decide) (by decide) (by decide) (by decide) (by decide), sF 11 _ (by decide) (by decide) (by decide) (by decide) (by decide), sF 12 _ (by decide) (by decide) (by decide) (by decide) (by decide), sF 12 _ (by decide) (by decide) (by decide) (by decide) (by decide), sF 10 _ (by decide) (by decide) (by decide) (by decide) (by decide), sF 10 _ (by decide) (by decide) (by decide) (by decide) (by decide)]
    exact h9
  have hT53 : T 53 0 = σ 17 0 := by rw [tF 53 rfl (by decide)]; exact hP.1
  have hK := (hV.2.2.1.2.2.2.2 (π i) hπ.1 (by rw [hT53]; exact hπ.2)).2
  have mb := hV.1 _ hK
  have hp := hP.2.1 (π i) hπ.1 hπ.2
  have v30 : T 30 (ad r 0 (π i)) = S 10 (π i) := by rw [tF 30 rfl (by decide), sF 10 _ (by decide) (by decide) (by decide) (by decide) (by decide)]; exact hp.1
  have v31 : T 31 (ad r 0 (π i)) = S 11 (π i) := by rw [tF 31 rfl (by decide), sF 11 _ (by decide) (by decide) (by decide) (by decide) (by decide)]; exact hp.2.1
  have v32 : T 32 (ad r 0 (π i)) = S 12 (π i) := by rw [tF 32 rfl (by decide), sF 12 _ (by decide) (by decide) (by decide) (by decide) (by decide)]; exact hp.2.2.1
  have v33 : T 33 (ad r 0 (π i)) = S 13 (π i) := by rw [tF 33 rfl (by decide), sF 13 _ (by decide) (by decide) (by decide) (by decide) (by decide)]; exact hp.2.2.2.1
  have v34 : T 34 (ad r 0 (π i)) = S 14 (π i) := by rw [tF 34 rfl (by decide), sF 14 _ (by decide) (by decide) (by decide) (by decide) (by decide)]; exact hp.2.2.2.2
  have hST : SRel r T S := by
    unfold SRel
    rw [tF 55 rfl (by decide), tF 40 rfl (by decide), tF 41 rfl (by decide), tF 42 rfl (by decide), tF 43 rfl (by decide), tF 20 rfl (by decide), tF 21 rfl (by decide), tF 22 rfl (by decide), e5]
    refine ⟨hS.1, fun k a b => ?_, fun z a b => ?_, fun z a b => ?_⟩
    · rw [sF 1 _ (by decide) (by decide) (by decide) (by decide) (by decide), sF 2 _ (by decide) (by decide) (by decide) (by decide) (by decide), sF 3 _ (by decide) (by decide) (by decide) (by decide) (by decide), sF 4 _ (by decide) (by decide) (by decide) (by decide) (by decide)]
      exact hS.2.1 k a b
    · rw [sF 6 _ (by decide) (by decide) (by decide) (by decide) (by decide), sF 7 _ (by decide) (by decide) (by decide) (by decide) (by decide)]
      exact hS.2.2.1 z a b
    · rw [sF 8 _ (by decide) (by decide) (by decide) (by decide) (by decide)]
      exact hS.2.2.2 z a b
  have hff := lk_ff sB sI.rv hST sL mb
  rw [v31, v32, v33, v34] at hff
  have hff : cFF r T w (ad r 0 (π i)) = if m_pr S (π i) = -1 then -1 else m_pr S (π i) * 20 + m_slotIn S (m_pr S (π i)) (S 11 (π i)) (S 12 (π i)) (S 13 (π i)) (S 14 (π i)) := hff
  have hpr : m_pr S (π i) = -1 ∨ (0 ≤ m_pr S (π i) ∧ m_pr S (π i) < S 5 0 ∧ m_slotIn S (m_pr S (π i)) (S 11 (π i)) (S 12 (π i)) (S 13 (π i)) (S 14 (π i)) ≠ -1) := m_prA_rng sB _ _ _ _
  have hsz : 1 ≤ S 11 (π i) := by rw [← v31]; exact mb.2.1.1
  refine ⟨hnx, ?_, fun hne => ?_⟩
  · rcases hpr with z | ⟨z0, z1, z2⟩
    · rw [hff, if_pos z]; exact ⟨fun _ => z, fun _ => rfl⟩
    · rw [hff, if_neg (by omega)]
      have := m_slotIn_rng sB (r := m_pr S (π i)) ⟨z0, by omega⟩ (S 11 (π i)) (S 12 (π i)) (S 13 (π i)) (S 14 (π i))
      exact ⟨fun y => by omega, fun y => by omega⟩
  · rcases hpr with z | ⟨z0, z1, z2⟩
    · rw [hff, if_pos z] at hne; exact absurd rfl hne
    · rw [if_neg (show ¬ m_pr S (π i) = -1 by omega)] at hff
      have emp : m_put S (π i) = m_at S (π i) (m_pr S (π i)) (m_slotIn S (m_pr S (π i)) (S 11 (π i)) (S 12 (π i)) (S 13 (π i)) (S 14 (π i))) := m_put_some (by omega)
      rw [emp, hff]
      obtain ⟨R, hR⟩ : ∃ R, m_pr S (π i) = R := ⟨_, rfl⟩
      rw [hR] at z0 z1 z2 ⊢
      obtain ⟨s, hs⟩ : ∃ s, m_slotIn S R (S 11 (π i)) (S 12 (π i)) (S 13 (π i)) (S 14 (π i)) = s := ⟨_, rfl⟩
      rw [hs] at z2 ⊢
      have h17 : π i < S 17 0 := by rw [e17]; exact hπ.2
      obtain ⟨aB, aI, aN, aM⟩ := put_all sB sI sN sM hπ.1 h17 hu hsz ⟨z0, z1⟩ hs z2
      obtain ⟨f1, f2, f3, f4, f5⟩ := slot_facts sB ⟨z0, z1⟩ (by omega) hs z2
      have hl1 : LR (su T 36 (ad r 0 (π i)) (R * 20 + s)) w S := LR_su hw (by omega) sL
      have hl2 := lr_put (m := ad r 0 (π i)) hw sB hl1 hπ.1 h17 hu (R := R) (S := s) (by omega) (by omega) f5 (by rw [su_n (by decide), su_n (by decide), su_n (by decide), su_n (by decide), su_n (by decide)]; exact ⟨v30, v31, v32, v33, v34⟩) hsz
      refine ⟨aB, aI, aN, aM, hl2, fun f z a b c d e => ?_, fun k a b => ?_, fun j a b => ?_, fun j a b => ?_, fun f hf h36 => ?_⟩
      · rw [m_at_n ⟨b, c⟩]; exact sF f z a b c d e
      · rw [m_at_n (by decide), m_at_n (by decide)]; exact s1920 k a b
      · rw [m_at15, m_at16, cPut_fix hw rfl, su_s]
        by_cases z : j = i
        · rw [z, iup_s, iup_s, iup_s]; exact ⟨by omega, rfl⟩
        · have hj := hO.1 j a (by omega)
          have ne := hO.inj a (by omega) (show (0 : Int) ≤ i by omega) hi z
          have ne2 := ad_ne hP hNI hj.1 hj.2 hπ.1 hπ.2 ne
          rw [iup_n ne, iup_n ne, iup_n (by omega)]
          exact sp j a (by omega)
      · rw [m_at15]
        have ne := hO.inj (show (0 : Int) ≤ j by omega) b (show (0 : Int) ≤ i by omega) hi (by omega)
        rw [iup_n ne]
        exact su_ j (by omega) b
      · rw [cPut_fix hw hf, su_n h36]; exact tF f hf h36
theorem pk_run {K : Nat → Nat} {r : Nat → Int → Option Nat} {cp : Nat → Nat} {τ σ : sT} {w : Nat} {π : Int → Int} (hw : w = 5 ∨ w = 12) (hV : CV K r cp τ) (hB : MB σ) (hS : SRel r τ σ) (hP : PRel r τ σ) (hNI : NI σ) (hO : PkO σ π) (h54 : τ 54 0 = σ 17 0) (hq : ∀ j : Int, 0 ≤ j → j < σ 17 0 → ad r 1 j = ad r 0 (π j)) : ∀ i : Nat, (i : Int) ≤ σ 17 0 → (∀ j, j < i → cFF r (pkS r τ w j) w (ad r 1 ((j : Nat) : Int)) ≠ -1) → ∃ S, PkI r τ σ w π i (pkS r τ w i) S ∧ pk_R σ = m_wh S
  | 0, _, _ => ⟨_, pk_init hw hB hO, rfl⟩
  | i + 1, hi, hj => by
    obtain ⟨S, h1, h2⟩ := pk_run hw hV hB hS hP hNI hO h54 hq i (by omega) (fun j z => hj j (by omega))
    have hVi := (pkS_ok hw hV i (by omega) (fun j z => hj j (by omega))).1
    have hf := hj i (by omega)
    rw [hq i (by omega) (by omega)] at hf
    obtain ⟨s1, s2, s3⟩ := pk_step hw hVi hB hS hP hNI hO h1 (by omega)
    refine ⟨m_put S (π i), ?_, ?_⟩
    · show PkI r τ σ w π (i + 1) (cPut (su (pkS r τ w i) 36 (ad r 1 i) (cFF r (pkS r τ w i) w (ad r 1 i))) w (ad r 1 i) (cFF r (pkS r τ w i) w (ad r 1 i))) (m_put S (π i))
      rw [hq i (by omega) (by omega)]
      exact s3 hf
    · have hπ := hO.1 i (by omega) (by omega)
      rw [h2, m_wh_step h1.1 (by rw [s1]; omega) (by rw [s1]; exact fun z => hf (s2.mpr z)), s1]
theorem cMv_at {r : Nat → Int → Option Nat} {τ σ T : sT} (hP : PRel r τ σ) (hNI : NI σ) : ∀ i : Nat, (i : Int) ≤ σ 17 0 → ∀ k : Int, 0 ≤ k → k < σ 17 0 → cMv r T i 35 (ad r 0 k) = if k < i then T 36 (ad r 0 k) else T 35 (ad r 0 k)
  | 0, _, k, a, b => by rw [if_neg (by omega)]; rfl
  | i + 1, hi, k, a, b => by
    have ih := cMv_at (T := T) hP hNI i (by omega) k a b
    show su (cMv r T i) 35 (ad r 0 i) (cMv r T i 36 (ad r 0 i)) 35 (ad r 0 k) = _
    rw [su_s, cMv_fix (f := 36) (by decide)]
    by_cases z : k = i
    · subst z
      rw [iup_s, if_pos (by omega)]
    · have := ad_ne hP hNI a b (show (0 : Int) ≤ i by omega) (by omega) z
      rw [iup_n (by omega), ih]
      by_cases y : k < i
      · rw [if_pos y, if_pos (by omega)]
      · rw [if_neg y, if_neg (by omega)]
theorem cMc_sum {r : Nat → Int → Option Nat} {τ σ T S : sT} (hP : PRel r τ σ) (hNI : NI σ) (h : ∀ k : Int, 0 ≤ k → k < σ 17 0 → (T 35 (ad r 0 k) = T 36 (ad r 0 k) ↔ m_mv S k = 0) ∧ (m_mv S k = 0 ∨ m_mv S k = 1)) : ∀ i : Nat, (i : Int) ≤ σ 17 0 → cMc r T i = sm (m_mv S) i
  | 0, _ => rfl
  | i + 1, hi => by
    have ih := cMc_sum hP hNI h i (by omega)
    have hk := h i (by omega) (by omega)
    have e := cMv_at (T := T) hP hNI i (by omega) i (by omega) (by omega)
    rw [if_neg (by omega)] at e
    show (if cMv r T i 35 (ad r 0 i) = cMv r T i 36 (ad r 0 i) then cMc r T i else cMc r T i + 1) = _
    rw [show ((i + 1 : Nat) : Int) = (i : Int) + 1 by omega, sm_s _ (by omega), e, cMv_fix (by decide), ih]
    by_cases z : T 35 (ad r 0 i) = T 36 (ad r 0 i)
    · rw [if_pos z, hk.1.mp z]; omega
    · rw [if_neg z]
      have : m_mv S i ≠ 0 := fun y => z (hk.1.mpr y)
      omega
set_option maxRecDepth 100000 in
theorem J_pack (l : Launch) (g : gT) {x : Nat} {h : fH} {σ : sT} (hX : SX g x h σ) : CM l g yX4_pack cX4_pack 4 (some .int) { frames := 9, cells := 60, slots := 9000, locals := 198 } [.ref x] h (fun v h1 => (0 : Int) = 0 ∧ v = some (.int (iI (pk_a σ))) ∧ SX g x h1 (pk_s σ)) (noX) := by
  obtain ⟨P, K, r, cp, b, b', τ, rfl, rfl, hk, hR⟩ := hX
  obtain ⟨hb, hb2, hbb, hV, hW, hPC, hWn, hB, hI, hA, hN, hNI, hML, hS, hP, hC, hL, hRV⟩ := hR.facts
  have hm := mb_nm hB
  have hn := mb_nr hB
  refine CM.mono (k_X4_pack l g hk hb hb2 hV hW hPC) ?_ ?_
  · rintro v h1 ⟨ed, cap, q1, mc, hk2, hc1, hc2, hq1, hv⟩
    obtain ⟨π, o1, o2, o3⟩ := pk_order hP hNI (σ 17 0).toNat (by omega)
    rw [show (((σ 17 0).toNat : Nat) : Int) = σ 17 0 by omega] at o1 o2 o3
    rw [hP.1] at hq1 hc1
    have hO : PkO σ π := ⟨fun j a c => ⟨(o1 j a c).1, (o1 j a c).2.1⟩, o2, o3⟩
    have h54 : su (su τ 51 0 mc) 54 0 (τ 53 0) 54 0 = σ 17 0 := by rw [su_s, iup_s]; exact hP.1
    have hS1 : SRel (rup r 1 q1) (su (su τ 51 0 mc) 54 0 (τ 53 0)) σ := hS
    have hP1 : PRel (rup r 1 q1) (su (su τ 51 0 mc) 54 0 (τ 53 0)) σ := hP
    have hC1 : PCel (rup r 1 q1) (su (su τ 51 0 mc) 54 0 (τ 53 0)) σ := hC
    have hqa : ∀ j : Int, 0 ≤ j → j < σ 17 0 → ad (rup r 1 q1) 1 j = ad (rup r 1 q1) 0 (π j) := fun j a c => by
      show (rup r 1 q1 1 j).getD 0 = ad r 0 (π j)
      rw [rup_s, hq1 j a c, ← (o1 j a c).2.2]
      rfl
    have hV1 : CV K (rup r 1 q1) (kup cp 1 cap) (su (su τ 51 0 mc) 54 0 (τ 53 0)) := by
      refine ⟨hV.1, hV.2.1, hV.2.2.1, ⟨by rw [h54]; omega, by rw [h54, kup_s]; exact hc1, by rw [kup_s]; exact hc2, by rw [h54]; omega, fun j a c => ?_⟩, hV.2.2.2.2.1, hV.2.2.2.2.2⟩
      rw [h54] at c
      rw [hqa j a c]
      refine ⟨?_, (hV.2.2.1.2.2.2.2 (π j) (o1 j a c).1 (by rw [hP.1]; exact (o1 j a c).2.1)).2⟩
      show rup r 1 q1 1 j = some (ad r 0 (π j))
      rw [rup_s, hq1 j a c, (o1 j a c).2.2]
    have eb : ∀ f, (f ≠ b' + 1 ∧ f ≠ b' + 2 ∧ f ≠ b' + 3 ∧ f ≠ b' + 5 ∧ f ≠ b' + 6) → f ≠ 36 → f ≠ 51 → f ≠ 54 → ∀ i, pkS (rup r 1 q1) (su (su τ 51 0 mc) 54 0 (τ 53 0)) b' i f = τ f := fun f h9 h36 h51 h54 i => by rw [pkS_n h9 h36, su_n h54, su_n h51]
    generalize hτ1 : su (su τ 51 0 mc) 54 0 (τ 53 0) = τ1 at *
    generalize hr1 : rup r 1 q1 = r1 at *
    have hfx : ∀ f, cfix f = true → f ≠ 36 → ∀ i, pkS r1 τ1 b' i f = τ1 f := fun f hf h36 i => pkS_fix hb2 hf h36 i
    rcases hv with ⟨i, hi, hj, hf, rfl, rfl⟩ | ⟨n, hn9, hj, rfl, rfl⟩
    · rw [hP.1] at hi
      obtain ⟨S, s1, s2⟩ := pk_run hb2 hV1 hB hS1 hP1 hNI hO h54 hqa i (by omega) hj
      have hVi := (pkS_ok hb2 hV1 i (by omega) hj).1
      rw [hqa i (by omega) hi] at hf
      obtain ⟨t1, t2, t3⟩ := pk_step hb2 hVi hB hS1 hP1 hNI hO s1 hi
      have hwh : pk_R σ = (S, π i) := by rw [s2, m_wh_stop (Or.inr (by rw [t1]; exact t2.mp hf)), t1]
      have hπ := hO.1 i (by omega) hi
      have hne : ¬ (pk_R σ).2 = -1 := by rw [hwh]; show ¬ π i = -1; omega
      have ea : pk_a σ = -1 := if_neg hne
      have es : pk_s σ = m_p3 S (S 17 0) := by
        have : pk_s σ = m_p3 (pk_R σ).1 ((pk_R σ).1 17 0) := if_neg hne
        rw [this, hwh]
      obtain ⟨sB, sI, sN, sM, sL, sF, s1920, sp, su_, tF⟩ := s1
      have e17 : S 17 0 = σ 17 0 := sF 17 0 (by decide) (by decide) (by decide) (by decide) (by decide)
      refine ⟨_, ⟨rfl, by rw [ea], ?_⟩, fun a e h9 => h9⟩
      rw [es]
      have key : RX K r1 (kup cp 1 cap) b b' (pkS r1 τ1 b' i) σ := by
        refine ⟨hR.1, hVi, ⟨hB, hI, hA, hN, hNI, hML⟩, ?_, ?_, ?_, LR_τ (eb (b + 1) (by omega) (by omega) (by omega) (by omega) i) (eb (b + 2) (by omega) (by omega) (by omega) (by omega) i) (eb (b + 3) (by omega) (by omega) (by omega) (by omega) i) (eb (b + 5) (by omega) (by omega) (by omega) (by omega) i) (eb (b + 6) (by omega) (by omega) (by omega) (by omega) i) hL⟩
        · unfold SRel
          rw [tF 55 rfl (by decide), tF 40 rfl (by decide), tF 41 rfl (by decide), tF 42 rfl (by decide), tF 43 rfl (by decide), tF 20 rfl (by decide), tF 21 rfl (by decide), tF 22 rfl (by decide)]
          exact hS1
        · unfold PRel
          rw [tF 53 rfl (by decide), tF 30 rfl (by decide), tF 31 rfl (by decide), tF 32 rfl (by decide), tF 33 rfl (by decide), tF 34 rfl (by decide), tF 0 rfl (by decide), tF 2 rfl (by decide)]
          exact hP1
        · unfold PCel
          rw [tF 35 rfl (by decide)]
          exact hC1
      refine ⟨kup P 24 ed, K, r1, kup cp 1 cap, b, b', _, rfl, rfl, hk2, Ag.rx (σ := σ) ⟨fun f z p q => ?_, ?_, ?_, fun f j p q u v => ?_⟩ (mb_p3 sB _) key⟩
      · unfold m_p3
        rw [if_neg (by omega), if_neg (by omega)]
        exact sF f z (by omega) (by omega) (by omega) (by omega) (by omega)
      · exact e17
      · exact sF 18 0 (by decide) (by decide) (by decide) (by decide) (by decide)
      · unfold m_p3
        rw [e17]
        by_cases z15 : f = 15
        · subst z15
          rw [if_pos rfl, if_pos ⟨u, v⟩]; exact (s1920 j u v).1
        · rw [if_neg z15]
          by_cases z16 : f = 16
          · subst z16
            rw [if_pos rfl, if_pos ⟨u, v⟩]; exact (s1920 j u v).2
          · rw [if_neg z16]; exact sF f j (by omega) z15 z16 (by omega) (by omega)
    · rw [hP.1] at hn9
      obtain ⟨S, s1, s2⟩ := pk_run hb2 hV1 hB hS1 hP1 hNI hO h54 hqa n (by omega) hj
      have hVi := (pkS_ok hb2 hV1 n (by omega) hj).1
      obtain ⟨sB, sI, sN, sM, sL, sF, s1920, sp, su_, tF⟩ := s1
      have e17 : S 17 0 = σ 17 0 := sF 17 0 (by decide) (by decide) (by decide) (by decide) (by decide)
      have hall : ∀ k : Int, 0 ≤ k → k < σ 17 0 → S 15 k ≠ -1 ∧ pkS r1 τ1 b' n 36 (ad r1 0 k) = S 15 k * 20 + S 16 k := fun k a c => by
        obtain ⟨j, j0, j1, j2⟩ := o3 k a c
        have := sp j j0 (by omega)
        rw [j2] at this
        exact this
      have hd : ∀ j k : Int, 0 ≤ j → j < k → k < S 17 0 → S 10 j < S 10 k := fun j k a b c => by
        rw [sF 10 j (by decide) (by decide) (by decide) (by decide) (by decide), sF 10 k (by decide) (by decide) (by decide) (by decide) (by decide)]
        exact hNI.1 j k a b (by rw [← e17]; exact c)
      have hnx : m_nx S = -1 := nx_none hd (by omega) (fun e a c => (hall e a (by omega)).1)
      have hwh : pk_R σ = (S, -1) := by rw [s2, m_wh_stop (Or.inl hnx), hnx]
      have heq : (pk_R σ).2 = -1 := by rw [hwh]
      have ea : pk_a σ = sm (m_mv S) (σ 17 0) := by
        have : pk_a σ = sm (m_mv (pk_R σ).1) ((pk_R σ).1 17 0) := if_pos heq
        rw [this, hwh]
        show sm (m_mv S) (S 17 0) = _
        rw [e17]
      have es : pk_s σ = S := by
        have : pk_s σ = (pk_R σ).1 := if_pos heq
        rw [this, hwh]
      have hPT : PRel r1 (pkS r1 τ1 b' n) σ := by
        unfold PRel
        rw [tF 53 rfl (by decide), tF 30 rfl (by decide), tF 31 rfl (by decide), tF 32 rfl (by decide), tF 33 rfl (by decide), tF 34 rfl (by decide), tF 0 rfl (by decide), tF 2 rfl (by decide)]
        exact hP1
      have hmc : cMc r1 (pkS r1 τ1 b' n) n = sm (m_mv S) n := by
        refine cMc_sum hPT hNI (fun k a c => ?_) n (by omega)
        have h9 := (hall k a c).2
        have h8 := hC1 k a c
        have h7 := s1920 k a c
        have b1 : (0 : Int) ≤ S 16 k ∧ S 16 k ≤ 19 := sB 16 k a (show k < (60 : Int) by omega)
        have b2 : (0 : Int) ≤ σ 16 k ∧ σ 16 k ≤ 19 := hB 16 k a (show k < (60 : Int) by omega)
        rw [tF 35 rfl (by decide), h8, h9]
        unfold m_mv
        rw [h7.1, h7.2]
        constructor
        · constructor
          · intro z
            rw [if_neg (by omega)]
          · intro z
            by_cases y : S 15 k ≠ σ 15 k ∨ S 16 k ≠ σ 16 k
            · rw [if_pos y] at z; cases z
            · omega
        · split
          · exact Or.inr rfl
          · exact Or.inl rfl
      refine ⟨_, ⟨rfl, by rw [ea, hmc, hn9], ?_⟩, fun a e h9 => h9⟩
      rw [es]
      have hcf : ∀ f, f ≠ 35 → cMv r1 (pkS r1 τ1 b' n) n f = pkS r1 τ1 b' n f := fun f hf => cMv_fix hf n
      refine ⟨kup P 24 ed, K, r1, kup cp 1 cap, b', b, _, rfl, rfl, hk2, by omega, CV.mv hVi n (by rw [tF 53 rfl (by decide), hP1.1]; omega), ⟨sB, sI, fun k a c => (hall k a (by omega)).1, sN, ⟨hd, fun k a c => ?_⟩, sM⟩, ?_, ?_, ?_, LR_τ (hcf _ (by omega)) (hcf _ (by omega)) (hcf _ (by omega)) (hcf _ (by omega)) (hcf _ (by omega)) sL⟩
      · rw [sF 10 k (by decide) (by decide) (by decide) (by decide) (by decide), sF 18 0 (by decide) (by decide) (by decide) (by decide) (by decide)]
        exact hNI.2 k a (by omega)
      · unfold SRel
        rw [hcf 55 (by decide), hcf 40 (by decide), hcf 41 (by decide), hcf 42 (by decide), hcf 43 (by decide), hcf 20 (by decide), hcf 21 (by decide), hcf 22 (by decide), tF 55 rfl (by decide), tF 40 rfl (by decide), tF 41 rfl (by decide), tF 42 rfl (by decide), tF 43 rfl (by decide), tF 20 rfl (by decide), tF 21 rfl (by decide), tF 22 rfl (by decide), sF 5 0 (by decide) (by decide) (by decide) (by decide) (by decide)]
        refine ⟨hS1.1, fun k a c => ?_, fun z a c => ?_, fun z a c => ?_⟩
        · rw [sF 1 _ (by decide) (by decide) (by decide) (by decide) (by decide), sF 2 _ (by decide) (by decide) (by decide) (by decide) (by decide), sF 3 _ (by decide) (by decide) (by decide) (by decide) (by decide), sF 4 _ (by decide) (by decide) (by decide) (by decide) (by decide)]
          exact hS1.2.1 k a c
        · rw [sF 6 _ (by decide) (by decide) (by decide) (by decide) (by decide), sF 7 _ (by decide) (by decide) (by decide) (by decide) (by decide)]
          exact hS1.2.2.1 z a c
        · rw [sF 8 _ (by decide) (by decide) (by decide) (by decide) (by decide)]
          exact hS1.2.2.2 z a c
      · unfold PRel
        rw [hcf 53 (by decide), hcf 30 (by decide), hcf 31 (by decide), hcf 32 (by decide), hcf 33 (by decide), hcf 34 (by decide), hcf 0 (by decide), hcf 2 (by decide), e17, sF 18 0 (by decide) (by decide) (by decide) (by decide) (by decide)]
        refine ⟨hPT.1, fun k a c => ?_, hPT.2.2.1, fun z a c => ?_⟩
        · rw [sF 10 _ (by decide) (by decide) (by decide) (by decide) (by decide), sF 11 _ (by decide) (by decide) (by decide) (by decide) (by decide), sF 12 _ (by decide) (by decide) (by decide) (by decide) (by decide), sF 13 _ (by decide) (by decide) (by decide) (by decide) (by decide), sF 14 _ (by decide) (by decide) (by decide) (by decide) (by decide)]
          exact hPT.2.1 k a c
        · rw [sF 9 _ (by decide) (by decide) (by decide) (by decide) (by decide)]
          exact hPT.2.2.2 z a c
      · intro k a c
        rw [e17] at c
        rw [cMv_at hPT hNI n (by omega) k a c, if_pos (by omega)]
        exact (hall k a c).2
  · exact fun _ _ z => z.elim
