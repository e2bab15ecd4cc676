/-! ===== the class: states behind its calls ===== -/
theorem ch_subm {g : gT} {P K : Nat → Nat} {r : Nat → Int → Option Nat} {cp : Nat → Nat} {b b' : Nat} {τ : sT} (hk : cok P K cp) {q : Nat} (hq : cheap g P K r cp b b' τ q = none) (n s p w c : Int) : ∀ a e, cheap g P K r cp b b' τ a = some e → cheap g P (kup K q 1) r cp b b' (smo τ q n s p w c) a = some e := by
  intro a e he
  rw [← (ch_newm hk hq n s p w c).2, f_up_n (fun z => by rw [z, hq] at he; cases he)]
  exact he
theorem cAll_smo {τ : sT} {f q : Nat} (hf : f < 30) (n s p w c : Int) : cAll (smo τ q n s p w c) f = cAll τ f := by
  unfold cAll
  rw [smo_lo (f := f) (by omega), smo_lo (f := 55) (by omega)]
theorem Wb_su {τ : sT} {b f : Nat} {z v : Int} (hb : b = 5 ∨ b = 12) (hf : f < 6 ∨ 18 < f) (h : Wb τ b) : Wb (su τ f z v) b := by
  unfold Wb
  rw [su_n (f' := b + 1) (by omega), su_n (f' := b + 2) (by omega), su_n (f' := b + 3) (by omega), su_n (f' := b + 5) (by omega), su_n (f' := b + 6) (by omega)]
  exact h
theorem CV.sw {K : Nat → Nat} {r : Nat → Int → Option Nat} {cp : Nat → Nat} {τ : sT} (h : CV K r cp τ) {f v : Int} (hv : 0 ≤ v ∧ v ≤ 1) : CV K r cp (su τ 2 f v) := by
  obtain ⟨hM, hR, hL0, hL1, hL2, hS⟩ := h
  refine ⟨hM, hR, hL0, hL1, hL2, hS.1, hS.2.1, hS.2.2.1, fun z z0 z1 => ?_, hS.2.2.2.2⟩
  show 0 ≤ iup (τ 2) f v z ∧ iup (τ 2) f v z ≤ 1
  by_cases k : z = f
  · rw [k, iup_s]; exact hv
  · rw [iup_n k]; exact hS.2.2.2.1 z z0 z1
theorem Mb_su {τ : sT} {m q : Nat} {c : Int} {f : Nat} (hf : f = 35 ∨ f = 36) (hc : -1 ≤ c ∧ c ≤ 159) (h : Mb τ m) : Mb (su τ f q c) m := by
  have key : ∀ j, (j ≠ 35 → j ≠ 36 → su τ f q c j m = τ j m) := fun j h1 h2 => by rw [su_n (by omega)]
  have k2 : ∀ j, j = 35 ∨ j = 36 → -1 ≤ τ j m ∧ τ j m ≤ 159 → -1 ≤ su τ f q c j m ∧ su τ f q c j m ≤ 159 := fun j hj hh => by
    by_cases e : j = f
    · subst e
      rw [su_s]
      by_cases k : (m : Int) = q
      · rw [k, iup_s]; exact hc
      · rw [iup_n k]; exact hh
    · rw [su_n e]; exact hh
  unfold Mb
  rw [key 30 (by decide) (by decide), key 31 (by decide) (by decide), key 32 (by decide) (by decide), key 33 (by decide) (by decide), key 34 (by decide) (by decide)]
  exact ⟨h.1, h.2.1, h.2.2.1, h.2.2.2.1, h.2.2.2.2.1, k2 35 (Or.inl rfl) h.2.2.2.2.2.1, k2 36 (Or.inr rfl) h.2.2.2.2.2.2⟩
theorem CV.cell {K : Nat → Nat} {r : Nat → Int → Option Nat} {cp : Nat → Nat} {τ : sT} (h : CV K r cp τ) {q : Nat} {c : Int} {f : Nat} (hf : f = 35 ∨ f = 36) (hc : -1 ≤ c ∧ c ≤ 159) : CV K r cp (su τ f q c) := by
  obtain ⟨hM, hR, hL0, hL1, hL2, hS⟩ := h
  have e : ∀ j, j ≠ 35 → j ≠ 36 → su τ f q c j = τ j := fun j h1 h2 => su_n (by omega)
  refine ⟨fun a ha => Mb_su hf hc (hM a ha), ?_, ?_, ?_, ?_, ?_⟩
  · unfold Rb
    rw [e 40 (by decide) (by decide), e 41 (by decide) (by decide), e 42 (by decide) (by decide), e 43 (by decide) (by decide)]
    exact hR
  · unfold Ls0; rw [e 53 (by decide) (by decide)]; exact hL0
  · unfold Ls1; rw [e 54 (by decide) (by decide)]; exact hL1
  · unfold Ls2; rw [e 55 (by decide) (by decide)]; exact hL2
  · unfold Sb
    rw [e 20 (by decide) (by decide), e 21 (by decide) (by decide), e 22 (by decide) (by decide), e 2 (by decide) (by decide), e 0 (by decide) (by decide)]
    exact hS
theorem CV.newr {K : Nat → Nat} {r : Nat → Int → Option Nat} {cp : Nat → Nat} {τ : sT} (h : CV K r cp τ) {q : Nat} (hq : K q ≠ 1 ∧ K q ≠ 2) {w s x y : Int} (hkd : (0 ≤ w ∧ w ≤ 3) ∧ (1 ≤ s ∧ s ≤ 20) ∧ (0 ≤ x ∧ x ≤ 10000) ∧ (0 ≤ y ∧ y ≤ 10000)) : CV (kup K q 2) r cp (sro τ q w s x y) := by
  have e : ∀ f, f < 40 ∨ 43 < f → sro τ q w s x y f = τ f := fun f hf => sro_lo hf
  obtain ⟨hM, hR, hL0, hL1, hL2, hS⟩ := h
  refine ⟨fun a ha => ?_, fun a ha => ?_, ?_, ?_, ?_, ?_⟩
  · by_cases z : a = q
    · subst z; rw [kup_s] at ha; cases ha
    · rw [kup_n z] at ha
      unfold Mb
      simp only [sro_ne z]
      exact hM a ha
  · by_cases z : a = q
    · subst z
      unfold Rb
      rw [show sro τ a w s x y 40 (a : Int) = w from iup_s _ _ _, show sro τ a w s x y 41 (a : Int) = s from iup_s _ _ _, show sro τ a w s x y 42 (a : Int) = x from iup_s _ _ _, show sro τ a w s x y 43 (a : Int) = y from iup_s _ _ _]
      exact hkd
    · rw [kup_n z] at ha
      unfold Rb
      simp only [sro_ne z]
      exact hR a ha
  · unfold Ls0
    rw [e 53 (by omega)]
    refine ⟨hL0.1, hL0.2.1, hL0.2.2.1, hL0.2.2.2.1, fun k h1 h2 => ?_⟩
    have := hL0.2.2.2.2 k h1 h2
    refine ⟨this.1, ?_⟩
    rw [kup_n (fun z => hq.1 (by rw [← z]; exact this.2))]
    exact this.2
  · unfold Ls1
    rw [e 54 (by omega)]
    refine ⟨hL1.1, hL1.2.1, hL1.2.2.1, hL1.2.2.2.1, fun k h1 h2 => ?_⟩
    have := hL1.2.2.2.2 k h1 h2
    refine ⟨this.1, ?_⟩
    rw [kup_n (fun z => hq.1 (by rw [← z]; exact this.2))]
    exact this.2
  · unfold Ls2
    rw [e 55 (by omega)]
    refine ⟨hL2.1, hL2.2.1, hL2.2.2.1, hL2.2.2.2.1, fun k h1 h2 => ?_⟩
    have := hL2.2.2.2.2 k h1 h2
    refine ⟨this.1, ?_⟩
    rw [kup_n (fun z => hq.2 (by rw [← z]; exact this.2))]
    exact this.2
  · unfold Sb
    rw [e 20 (by omega), e 21 (by omega), e 22 (by omega), e 2 (by omega), e 0 (by omega)]
    exact hS
/-- move to the packed cells -/
def cMv (r : Nat → Int → Option Nat) (τ : sT) : Nat → sT
  | 0 => τ
  | i + 1 => su (cMv r τ i) 35 (ad r 0 i) (cMv r τ i 36 (ad r 0 i))
def cMc (r : Nat → Int → Option Nat) (τ : sT) : Nat → Int
  | 0 => 0
  | i + 1 => if cMv r τ i 35 (ad r 0 i) = cMv r τ i 36 (ad r 0 i) then cMc r τ i else cMc r τ i + 1
theorem cMv_fix {r : Nat → Int → Option Nat} {τ : sT} {f : Nat} (hf : f ≠ 35) : ∀ i, cMv r τ i f = τ f
  | 0 => rfl
  | i + 1 => by
    show su _ 35 _ _ f = _
    rw [su_n hf, cMv_fix hf i]
theorem CV.mv {K : Nat → Nat} {r : Nat → Int → Option Nat} {cp : Nat → Nat} {τ : sT} (h : CV K r cp τ) : ∀ i : Nat, (i : Int) ≤ τ 53 0 → CV K r cp (cMv r τ i)
  | 0, _ => h
  | i + 1, hi => by
    have h1 := CV.mv h i (by omega)
    have h2 := h1.1 (ad r 0 i) (h.2.2.1.2.2.2.2 i (by omega) (by omega)).2
    exact h1.cell (Or.inl rfl) h2.2.2.2.2.2.2
/-- the order of packing -/
def ins (L : Int → Nat) (p : Int) (v : Nat) : Int → Nat := fun j => if j < p then L j else if j = p then v else L (j - 1)
def posN (τ : sT) (L : Int → Nat) (v : Nat) : Nat → Nat
  | 0 => 0
  | p + 1 => if cPA τ v (L p) = true then posN τ L v p else p + 1
theorem posN_le (τ : sT) (L : Int → Nat) (v : Nat) : ∀ p, posN τ L v p ≤ p
  | 0 => Nat.le_refl _
  | p + 1 => by
    unfold posN
    split
    · exact Nat.le_succ_of_le (posN_le τ L v p)
    · exact Nat.le_refl _
def pkL (r : Nat → Int → Option Nat) (τ : sT) : Nat → Int → Nat
  | 0 => fun _ => 0
  | i + 1 => ins (pkL r τ i) (posN τ (pkL r τ i) (ad r 0 i) i) (ad r 0 i)
theorem pkL_K {K : Nat → Nat} {r : Nat → Int → Option Nat} {cp : Nat → Nat} {τ : sT} (h : Ls0 K r cp τ) : ∀ i : Nat, (i : Int) ≤ τ 53 0 → ∀ j : Int, 0 ≤ j → j < i → K (pkL r τ i j) = 1
  | 0, _, j, h0, h1 => by omega
  | i + 1, hi, j, h0, h1 => by
    have hp := posN_le τ (pkL r τ i) (ad r 0 i) i
    show K (ins (pkL r τ i) _ _ j) = 1
    unfold ins
    split
    · exact pkL_K h i (by omega) j h0 (by omega)
    · split
      · exact (h.2.2.2.2 i (by omega) (by omega)).2
      · exact pkL_K h i (by omega) (j - 1) (by omega) (by omega)
/-- the packing itself -/
def pkS (r : Nat → Int → Option Nat) (τ : sT) (w : Nat) : Nat → sT
  | 0 => cClA τ w
  | i + 1 => cPut (su (pkS r τ w i) 36 (ad r 1 i) (cFF r (pkS r τ w i) w (ad r 1 i))) w (ad r 1 i) (cFF r (pkS r τ w i) w (ad r 1 i))
theorem pkS_fix {r : Nat → Int → Option Nat} {τ : sT} {w f : Nat} (hw : w = 5 ∨ w = 12) (hf : cfix f = true) (h36 : f ≠ 36) : ∀ i, pkS r τ w i f = τ f
  | 0 => cClA_fix hw hf
  | i + 1 => by
    show cPut _ w _ _ f = _
    rw [cPut_fix hw hf, su_n h36, pkS_fix hw hf h36 i]
theorem cFil_rng {F : Int → Int} {n v : Int} {z : Int} (h0 : 0 ≤ z) (h1 : z < n) : cFil F n v z = v := if_pos ⟨h0, h1⟩
theorem cClA_Wn {τ : sT} {w : Nat} : Wn (cClA τ w) w 0 := by
  unfold cClA
  refine ⟨?_, ?_, ?_, ?_, ?_⟩
  · rw [sf_n (by omega), sf_n (by omega), sf_n (by omega), sf_n (by omega), sf_s]
    intro z a b; rw [cFil_rng a b]; omega
  · rw [sf_n (by omega), sf_n (by omega), sf_n (by omega), sf_s]
    intro z a b; rw [cFil_rng a b]; omega
  · rw [sf_n (by omega), sf_n (by omega), sf_s]
    intro z a b; rw [cFil_rng a b]; omega
  · rw [sf_n (by omega), sf_s]
    intro z a b; rw [cFil_rng a b]; omega
  · rw [sf_s]
    intro z a b; rw [cFil_rng a b]; omega
theorem Wn_su {τ : sT} {b f : Nat} {z v B : Int} (hb : b = 5 ∨ b = 12) (hf : f < 6 ∨ 18 < f) (h : Wn τ b B) : Wn (su τ f z v) b B := by
  unfold Wn
  rw [su_n (f' := b + 1) (by omega), su_n (f' := b + 2) (by omega), su_n (f' := b + 3) (by omega), su_n (f' := b + 5) (by omega), su_n (f' := b + 6) (by omega)]
  exact h
/-- the states of a packing that goes well so far -/
theorem pkS_ok {K : Nat → Nat} {r : Nat → Int → Option Nat} {cp : Nat → Nat} {τ : sT} {w : Nat} (hw : w = 5 ∨ w = 12) (hV : CV K r cp τ) : ∀ i : Nat, (i : Int) ≤ τ 54 0 → (∀ j, j < i → cFF r (pkS r τ w j) w (ad r 1 j) ≠ -1) → CV K r cp (pkS r τ w i) ∧ Wn (pkS r τ w i) w (2000 * i)
  | 0, _, _ => ⟨hV.of (fun f hf => cClA_fix hw hf), cClA_Wn⟩
  | i + 1, hi, hj => by
    obtain ⟨h1, h2⟩ := pkS_ok hw hV i (by omega) (fun j q => hj j (by omega))
    have hK := (hV.2.2.2.1.2.2.2.2 i (by omega) (by omega)).2
    have hf := hj i (by omega)
    have hg : 0 ≤ cFF r (pkS r τ w i) w (ad r 1 i) ∧ cFF r (pkS r τ w i) w (ad r 1 i) < 160 := by
      have hmb := h1.1 _ hK
      rcases cFF_rng (w := w) h1 hK with q | q
      · exact absurd q hf
      · omega
    have h3 : CV K r cp (su (pkS r τ w i) 36 (ad r 1 i) (cFF r (pkS r τ w i) w (ad r 1 i))) := h1.cell (Or.inr rfl) (by omega)
    refine ⟨h3.of (fun f hf => cPut_fix hw hf), ?_⟩
    rw [show (2000 : Int) * ((i + 1 : Nat) : Int) = 2000 * (i : Int) + 2000 by omega]
    exact Wn.put hw (Wn_su hw (by omega) h2) (h3.1 _ hK) hg
/-- how often one kind goes into a rack -/
def cUc (r : Nat → Int → Option Nat) (τ : sT) (w : Nat) (k : Int) (m : Nat) : Nat := (if ff (fun j => decide (cFit r (cUp r τ w k m j.toNat) w k m = -1)) 20 = -1 then 20 else ff (fun j => decide (cFit r (cUp r τ w k m j.toNat) w k m = -1)) 20).toNat
theorem cUc_eq {r : Nat → Int → Option Nat} {τ : sT} {w : Nat} {k : Int} {m j : Nat} (h20 : j ≤ 20) (h1 : ∀ i, i < j → cFit r (cUp r τ w k m i) w k m ≠ -1) (h2 : j < 20 → cFit r (cUp r τ w k m j) w k m = -1) : cUc r τ w k m = j := by
  unfold cUc
  by_cases hj : j < 20
  · have e : ff (fun j => decide (cFit r (cUp r τ w k m j.toNat) w k m = -1)) 20 = (j : Int) := ff_at (by omega) (by omega) (decide_eq_true (by rw [Int.toNat_natCast]; exact h2 hj)) (fun i a b => decide_eq_false (h1 i.toNat (by omega)))
    rw [e, if_neg (by omega), Int.toNat_natCast]
  · have e : ff (fun j => decide (cFit r (cUp r τ w k m j.toNat) w k m = -1)) 20 = -1 := ff_none (fun i a b => decide_eq_false (h1 i.toNat (by omega)))
    rw [e, if_pos rfl]
    show 20 = j
    omega
def rfS (r : Nat → Int → Option Nat) (τ : sT) (w : Nat) (m : Nat) : Nat → sT
  | 0 => τ
  | k + 1 => cUp r (rfS r τ w m k) w k m (cUc r (rfS r τ w m k) w k m)
def rfC (r : Nat → Int → Option Nat) (τ : sT) (w : Nat) (m : Nat) : Nat → Int
  | 0 => 0
  | k + 1 => rfC r τ w m k + ((cUc r (rfS r τ w m k) w k m : Nat) : Int)
theorem Wn_up {K : Nat → Nat} {r : Nat → Int → Option Nat} {cp : Nat → Nat} {τ : sT} {w : Nat} (hw : w = 5 ∨ w = 12) (hV : CV K r cp τ) {B k : Int} (hW : Wn τ w B) (hk : 0 ≤ k ∧ k < τ 55 0) {m : Nat} (hm : K m = 1) : ∀ j : Nat, (∀ i, i < j → cFit r (cUp r τ w k m i) w k m ≠ -1) → Wn (cUp r τ w k m j) w (B + 2000 * j)
  | 0, _ => by rw [show B + 2000 * ((0 : Nat) : Int) = B by omega]; exact hW
  | j + 1, h => by
    have h1 := Wn_up hw hV hW hk hm j (fun i hi => h i (by omega))
    have hVj : CV K r cp (cUp r τ w k m j) := hV.of (fun f hf => cUp_fix hw hf j)
    have h2 := h j (by omega)
    have e55 : cUp r τ w k m j 55 0 = τ 55 0 := by rw [cUp_fix hw rfl j]
    have h3 := cFit_rng (w := w) hVj hk.1 (by rw [e55]; exact hk.2) hm
    have hmb := hVj.1 m hm
    rw [show B + 2000 * ((j + 1 : Nat) : Int) = B + 2000 * (j : Int) + 2000 by omega]
    exact Wn.put hw h1 hmb (by omega)
theorem rfS_fix {r : Nat → Int → Option Nat} {τ : sT} {w m f : Nat} (hw : w = 5 ∨ w = 12) (hf : cfix f = true) : ∀ k, rfS r τ w m k f = τ f
  | 0 => rfl
  | k + 1 => by
    show cUp _ _ _ _ _ _ f = _
    rw [cUp_fix hw hf, rfS_fix hw hf k]
theorem icpI_rng {f g : Int → Int} {n z : Int} (h0 : 0 ≤ z) (h1 : z < n) : icpI f g 0 0 n z = f z := by
  unfold icpI
  rw [if_pos (by omega)]
  congr 1
  omega
theorem cCpA_1 {τ : sT} {w w2 : Nat} : cCpA τ w w2 (w + 1) = icpI (τ (w2 + 1)) (τ (w + 1)) 0 0 160 := by
  unfold cCpA
  rw [sf_n (by omega), sf_n (by omega), sf_n (by omega), sf_n (by omega), sf_s]
theorem cCpA_2 {τ : sT} {w w2 : Nat} : cCpA τ w w2 (w + 2) = icpI (τ (w2 + 2)) (τ (w + 2)) 0 0 8 := by
  unfold cCpA
  rw [sf_n (by omega), sf_n (by omega), sf_n (by omega), sf_s]
theorem cCpA_3 {τ : sT} {w w2 : Nat} : cCpA τ w w2 (w + 3) = icpI (τ (w2 + 3)) (τ (w + 3)) 0 0 8 := by
  unfold cCpA
  rw [sf_n (by omega), sf_n (by omega), sf_s]
theorem cCpA_5 {τ : sT} {w w2 : Nat} : cCpA τ w w2 (w + 5) = icpI (τ (w2 + 5)) (τ (w + 5)) 0 0 8 := by
  unfold cCpA
  rw [sf_n (by omega), sf_s]
theorem cCpA_6 {τ : sT} {w w2 : Nat} : cCpA τ w w2 (w + 6) = icpI (τ (w2 + 6)) (τ (w + 6)) 0 0 8 := by
  unfold cCpA
  rw [sf_s]
theorem cCpA_Wn {τ : sT} {w w2 : Nat} {B : Int} (h : Wn τ w2 B) : Wn (cCpA τ w w2) w B := by
  refine ⟨?_, ?_, ?_, ?_, ?_⟩
  · rw [cCpA_1]; intro z a b; rw [icpI_rng a b]; exact h.1 z a b
  · rw [cCpA_2]; intro z a b; rw [icpI_rng a b]; exact h.2.1 z a b
  · rw [cCpA_3]; intro z a b; rw [icpI_rng a b]; exact h.2.2.1 z a b
  · rw [cCpA_5]; intro z a b; rw [icpI_rng a b]; exact h.2.2.2.1 z a b
  · rw [cCpA_6]; intro z a b; rw [icpI_rng a b]; exact h.2.2.2.2 z a b
theorem Wn_smo {τ : sT} {b q : Nat} {B : Int} (hb : b = 5 ∨ b = 12) (h : Wn τ b B) (n s p w c : Int) : Wn (smo τ q n s p w c) b B := by
  unfold Wn
  rw [smo_lo (f := b + 1) (by omega), smo_lo (f := b + 2) (by omega), smo_lo (f := b + 3) (by omega), smo_lo (f := b + 5) (by omega), smo_lo (f := b + 6) (by omega)]
  exact h
